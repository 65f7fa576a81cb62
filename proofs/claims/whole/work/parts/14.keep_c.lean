theorem dX9_stand_0 : decode cX9_stand 0 = .ok (.iload_n 1, 1) := by decide +kernel
theorem dX9_stand_1 : decode cX9_stand 1 = .ok (.invokestatic 295, 3) := by decide +kernel
theorem dX9_stand_4 : decode cX9_stand 4 = .ok (.ifCond .ne 14, 3) := by decide +kernel
theorem dX9_stand_7 : decode cX9_stand 7 = .ok (.new 93, 3) := by decide +kernel
theorem dX9_stand_10 : decode cX9_stand 10 = .ok (.dup, 1) := by decide +kernel
theorem dX9_stand_11 : decode cX9_stand 11 = .ok (.ldc_w 298, 3) := by decide +kernel
theorem dX9_stand_14 : decode cX9_stand 14 = .ok (.invokespecial 97, 3) := by decide +kernel
theorem dX9_stand_17 : decode cX9_stand 17 = .ok (.athrow, 1) := by decide +kernel
theorem dX9_stand_18 : decode cX9_stand 18 = .ok (.aload_n 0, 1) := by decide +kernel
theorem dX9_stand_19 : decode cX9_stand 19 = .ok (.getfield 46, 3) := by decide +kernel
theorem dX9_stand_22 : decode cX9_stand 22 = .ok (.aload_n 0, 1) := by decide +kernel
theorem dX9_stand_23 : decode cX9_stand 23 = .ok (.getfield 42, 3) := by decide +kernel
theorem dX9_stand_26 : decode cX9_stand 26 = .ok (.invokevirtual 82, 3) := by decide +kernel
theorem dX9_stand_29 : decode cX9_stand 29 = .ok (.iconst 0, 1) := by decide +kernel
theorem dX9_stand_30 : decode cX9_stand 30 = .ok (.istore_n 2, 1) := by decide +kernel
theorem dX9_stand_31 : decode cX9_stand 31 = .ok (.iload_n 2, 1) := by decide +kernel
theorem dX9_stand_32 : decode cX9_stand 32 = .ok (.sipush 400, 3) := by decide +kernel
theorem dX9_stand_35 : decode cX9_stand 35 = .ok (.if_icmp .gt 29, 3) := by decide +kernel
theorem dX9_stand_38 : decode cX9_stand 38 = .ok (.aload_n 0, 1) := by decide +kernel
theorem dX9_stand_39 : decode cX9_stand 39 = .ok (.getfield 46, 3) := by decide +kernel
theorem dX9_stand_42 : decode cX9_stand 42 = .ok (.getfield 284, 3) := by decide +kernel
theorem dX9_stand_45 : decode cX9_stand 45 = .ok (.iload_n 1, 1) := by decide +kernel
theorem dX9_stand_46 : decode cX9_stand 46 = .ok (.if_icmp .lt 5, 3) := by decide +kernel
theorem dX9_stand_49 : decode cX9_stand 49 = .ok (.iload_n 2, 1) := by decide +kernel
theorem dX9_stand_50 : decode cX9_stand 50 = .ok (.ireturn, 1) := by decide +kernel
theorem dX9_stand_51 : decode cX9_stand 51 = .ok (.aload_n 0, 1) := by decide +kernel
theorem dX9_stand_52 : decode cX9_stand 52 = .ok (.getfield 46, 3) := by decide +kernel
theorem dX9_stand_55 : decode cX9_stand 55 = .ok (.invokevirtual 292, 3) := by decide +kernel
theorem dX9_stand_58 : decode cX9_stand 58 = .ok (.iinc 2 1, 3) := by decide +kernel
theorem dX9_stand_61 : decode cX9_stand 61 = .ok (.goto (-30), 3) := by decide +kernel
theorem dX9_stand_64 : decode cX9_stand 64 = .ok (.iconst (-1), 1) := by decide +kernel
theorem dX9_stand_65 : decode cX9_stand 65 = .ok (.ireturn, 1) := by decide +kernel
def lp_X9_stand_31 (a1 : Int32) : Nat → Int32 → Mem → Option (Nat × Int32 × Mem)
  | 0, _, _ => none
  | n + 1, x3, μ4 => if 400 < x3 then (some (0, (-1), μ4)) else (if (μ4 2 0 11) < a1 then ((f_X2_build 1 μ4).bind fun (q5 : Mem) => lp_X9_stand_31 a1 n (x3 + 1) q5) else (some (0, x3, μ4)))
def f_X9_stand (μ : Mem) (a1 : Int32) : Option (Nat × Int32 × Mem) := (f_X9_isTowers a1).bind fun (q1 : Int32) => if q1 = 0 then (some (1, 0, μ)) else ((f_X2_copy 1 0 μ).bind fun (q2 : Mem) => lp_X9_stand_31 a1 4096 0 q2)
set_option maxHeartbeats 4000000 in
set_option maxRecDepth 100000 in
theorem c_X9_stand (G : GG) (l : Launch) (hl0 : l.stackTraces = false) (μ : Mem) (a1 : Int32) : CXT G l yX9_stand (.code yX9_stand cX9_stand 3 (some .int)) 5 [.ref (gad G 0 0), .int a1] μ (f_X9_stand μ a1) := by
  refine CXT.of (own := "SaturdayKeep") (L0 := [some (.ref (gad G 0 0)), some (.int a1), none]) hl0 rfl rfl rfl (Nat.le_of_ble_eq_true rfl) (fun C hl1 hl hout hcs hC => ?_)
  subst hl1
  delta f_X9_stand
  refine aw_iload_n (pc := 0) (i := 1) hC dX9_stand_0 rfl rfl ?_
  refine aw_callSR (pc := 1) (As := [.int a1]) hC ms_X9_isTowers kw1140 (by decide) (c_X9_isTowers G C.2.1   μ a1) rfl (Nat.le_of_ble_eq_true rfl) dX9_stand_1 (fun q1 => ?_)
  refine aw_if_ne (pc := 4) (tgt := 18) hC dX9_stand_4 (by decide) (fun _ => ?_) (fun _ => ?_)
  · skip
    exact aw_throwW (k := 1) (i := 40) hC hl hout hcs rfl rfl kw745 kw21 thr1_97 (by decide) (by decide) (Nat.le_of_ble_eq_true rfl) dX9_stand_7 dX9_stand_10 dX9_stand_11 dX9_stand_14 dX9_stand_17
  · skip
    refine aw_aload_n (pc := 18) (i := 0) hC dX9_stand_18 rfl rfl ?_
    refine aw_get (pc := 19) hC inX9 (v0 (j := 0) (by decide)) rfl rfl 5 (by decide) kw281 rfl rfl dX9_stand_19 ?_
    refine aw_aload_n (pc := 22) (i := 0) hC dX9_stand_22 rfl rfl ?_
    refine aw_get (pc := 23) hC inX9 (v0 (j := 0) (by decide)) rfl rfl 4 (by decide) kw280 rfl rfl dX9_stand_23 ?_
    refine aw_callVV (pc := 26) (As := [.ref (gad G 1 0)]) hC mb_X2_copy kw346 (by decide) (c_X2_copy G C.2.1 1 0 (by decide) (by decide) μ ) (vH (h := 1) (j := 0) (by decide) (by decide)) rfl rfl rfl (Nat.le_of_ble_eq_true rfl) dX9_stand_26 (fun q2 => ?_)
    refine aw_iconst (pc := 29) (v := 0) hC dX9_stand_29 ic0 ?_
    refine aw_istore_n (pc := 30) (i := 2) hC dX9_stand_30 rfl rfl (by decide) ?_
    have hL31 : ∀ (n : Nat) (x3 : Int32) (μ4 : Mem), AW G C (qX G C) 0 0 3 μ4 31 [some (.ref (gad G 0 0)), some (.int a1), some (.int x3)] [] (lp_X9_stand_31 a1 n x3 μ4) := by
      intro n
      induction n with
      | zero => intro x3 μ4; exact aw_none
      | succ n ih =>
        intro x3 μ4
        rw [lp_X9_stand_31]
        refine aw_iload_n (pc := 31) (i := 2) hC dX9_stand_31 rfl rfl ?_
        refine aw_sipush (pc := 32) (v := 400) hC dX9_stand_32 sc400 ?_
        refine aw_icmp_gt (pc := 35) (tgt := 64) hC dX9_stand_35 (by decide) (fun _ => ?_) (fun _ => ?_)
        · skip
          refine aw_iconst (pc := 64) (v := (-1)) hC dX9_stand_64 icm1 ?_
          exact aw_iretX hC dX9_stand_65
        · skip
          refine aw_aload_n (pc := 38) (i := 0) hC dX9_stand_38 rfl rfl ?_
          refine aw_get (pc := 39) hC inX9 (v0 (j := 0) (by decide)) rfl rfl 5 (by decide) kw281 rfl rfl dX9_stand_39 ?_
          refine aw_get (pc := 42) hC inX2 (vH (h := 1) (j := 0) (by decide) (by decide)) rfl rfl 11 (by decide) kw208 rfl rfl dX9_stand_42 ?_
          refine aw_iload_n (pc := 45) (i := 1) hC dX9_stand_45 rfl rfl ?_
          refine aw_icmp_lt (pc := 46) (tgt := 51) hC dX9_stand_46 (by decide) (fun _ => ?_) (fun _ => ?_)
          · skip
            refine aw_aload_n (pc := 51) (i := 0) hC dX9_stand_51 rfl rfl ?_
            refine aw_get (pc := 52) hC inX9 (v0 (j := 0) (by decide)) rfl rfl 5 (by decide) kw281 rfl rfl dX9_stand_52 ?_
            refine aw_callVV (pc := 55) (As := []) hC mb_X2_build kw374 (by decide) (c_X2_build G C.2.1 1 (by decide) μ4 ) (vH (h := 1) (j := 0) (by decide) (by decide)) rfl rfl rfl (Nat.le_of_ble_eq_true rfl) dX9_stand_55 (fun q5 => ?_)
            refine aw_iinc (pc := 58) (v := x3 + 1) hC dX9_stand_58 rfl (congrArg (HAdd.hAdd _) ic1) rfl (by decide) ?_
            refine aw_goto (pc := 61) (tgt := 31) hC dX9_stand_61 (by decide) ?_
            exact ih (x3 + 1) q5
          · skip
            refine aw_iload_n (pc := 49) (i := 2) hC dX9_stand_49 rfl rfl ?_
            exact aw_iretX hC dX9_stand_50
    exact hL31 4096 0 q2
theorem dX9_sent_0 : decode cX9_sent 0 = .ok (.iload_n 1, 1) := by decide +kernel
theorem dX9_sent_1 : decode cX9_sent 1 = .ok (.ifCond .lt 10, 3) := by decide +kernel
theorem dX9_sent_4 : decode cX9_sent 4 = .ok (.iload_n 1, 1) := by decide +kernel
theorem dX9_sent_5 : decode cX9_sent 5 = .ok (.sipush 9999, 3) := by decide +kernel
theorem dX9_sent_8 : decode cX9_sent 8 = .ok (.if_icmp .le 14, 3) := by decide +kernel
theorem dX9_sent_11 : decode cX9_sent 11 = .ok (.new 93, 3) := by decide +kernel
theorem dX9_sent_14 : decode cX9_sent 14 = .ok (.dup, 1) := by decide +kernel
theorem dX9_sent_15 : decode cX9_sent 15 = .ok (.ldc_w 315, 3) := by decide +kernel
theorem dX9_sent_18 : decode cX9_sent 18 = .ok (.invokespecial 97, 3) := by decide +kernel
theorem dX9_sent_21 : decode cX9_sent 21 = .ok (.athrow, 1) := by decide +kernel
theorem dX9_sent_22 : decode cX9_sent 22 = .ok (.aload_n 0, 1) := by decide +kernel
theorem dX9_sent_23 : decode cX9_sent 23 = .ok (.getfield 42, 3) := by decide +kernel
theorem dX9_sent_26 : decode cX9_sent 26 = .ok (.aload_n 0, 1) := by decide +kernel
theorem dX9_sent_27 : decode cX9_sent 27 = .ok (.getfield 42, 3) := by decide +kernel
theorem dX9_sent_30 : decode cX9_sent 30 = .ok (.getfield 239, 3) := by decide +kernel
theorem dX9_sent_33 : decode cX9_sent 33 = .ok (.invokevirtual 199, 3) := by decide +kernel
theorem dX9_sent_36 : decode cX9_sent 36 = .ok (.istore_n 2, 1) := by decide +kernel
theorem dX9_sent_37 : decode cX9_sent 37 = .ok (.iload_n 2, 1) := by decide +kernel
theorem dX9_sent_38 : decode cX9_sent 38 = .ok (.istore_n 3, 1) := by decide +kernel
theorem dX9_sent_39 : decode cX9_sent 39 = .ok (.iconst 0, 1) := by decide +kernel
theorem dX9_sent_40 : decode cX9_sent 40 = .ok (.istore 4, 2) := by decide +kernel
theorem dX9_sent_42 : decode cX9_sent 42 = .ok (.iload 4, 2) := by decide +kernel
theorem dX9_sent_44 : decode cX9_sent 44 = .ok (.sipush 256, 3) := by decide +kernel
theorem dX9_sent_47 : decode cX9_sent 47 = .ok (.if_icmp .ge 89, 3) := by decide +kernel
theorem dX9_sent_50 : decode cX9_sent 50 = .ok (.iload 4, 2) := by decide +kernel
theorem dX9_sent_52 : decode cX9_sent 52 = .ok (.invokestatic 317, 3) := by decide +kernel
theorem dX9_sent_55 : decode cX9_sent 55 = .ok (.iload_n 3, 1) := by decide +kernel
theorem dX9_sent_56 : decode cX9_sent 56 = .ok (.invokestatic 317, 3) := by decide +kernel
theorem dX9_sent_59 : decode cX9_sent 59 = .ok (.if_icmp .ge 7, 3) := by decide +kernel
theorem dX9_sent_62 : decode cX9_sent 62 = .ok (.iconst 1, 1) := by decide +kernel
theorem dX9_sent_63 : decode cX9_sent 63 = .ok (.goto 4, 3) := by decide +kernel
theorem dX9_sent_66 : decode cX9_sent 66 = .ok (.iconst 0, 1) := by decide +kernel
theorem dX9_sent_67 : decode cX9_sent 67 = .ok (.istore 5, 2) := by decide +kernel
theorem dX9_sent_69 : decode cX9_sent 69 = .ok (.iload 4, 2) := by decide +kernel
theorem dX9_sent_71 : decode cX9_sent 71 = .ok (.iload_n 2, 1) := by decide +kernel
theorem dX9_sent_72 : decode cX9_sent 72 = .ok (.iconst (-1), 1) := by decide +kernel
theorem dX9_sent_73 : decode cX9_sent 73 = .ok (.ixor, 1) := by decide +kernel
theorem dX9_sent_74 : decode cX9_sent 74 = .ok (.iand, 1) := by decide +kernel
theorem dX9_sent_75 : decode cX9_sent 75 = .ok (.ifCond .ne 7, 3) := by decide +kernel
theorem dX9_sent_78 : decode cX9_sent 78 = .ok (.iconst 1, 1) := by decide +kernel
theorem dX9_sent_79 : decode cX9_sent 79 = .ok (.goto 4, 3) := by decide +kernel
theorem dX9_sent_82 : decode cX9_sent 82 = .ok (.iconst 0, 1) := by decide +kernel
theorem dX9_sent_83 : decode cX9_sent 83 = .ok (.istore 6, 2) := by decide +kernel
theorem dX9_sent_85 : decode cX9_sent 85 = .ok (.iload 6, 2) := by decide +kernel
theorem dX9_sent_87 : decode cX9_sent 87 = .ok (.ifCond .eq 43, 3) := by decide +kernel
theorem dX9_sent_90 : decode cX9_sent 90 = .ok (.iload 5, 2) := by decide +kernel
theorem dX9_sent_92 : decode cX9_sent 92 = .ok (.ifCond .ne 21, 3) := by decide +kernel
theorem dX9_sent_95 : decode cX9_sent 95 = .ok (.iload 4, 2) := by decide +kernel
theorem dX9_sent_97 : decode cX9_sent 97 = .ok (.iload_n 3, 1) := by decide +kernel
theorem dX9_sent_98 : decode cX9_sent 98 = .ok (.if_icmp .ge 32, 3) := by decide +kernel
theorem dX9_sent_101 : decode cX9_sent 101 = .ok (.iload 4, 2) := by decide +kernel
theorem dX9_sent_103 : decode cX9_sent 103 = .ok (.invokestatic 317, 3) := by decide +kernel
theorem dX9_sent_106 : decode cX9_sent 106 = .ok (.iload_n 3, 1) := by decide +kernel
theorem dX9_sent_107 : decode cX9_sent 107 = .ok (.invokestatic 317, 3) := by decide +kernel
theorem dX9_sent_110 : decode cX9_sent 110 = .ok (.if_icmp .ne 20, 3) := by decide +kernel
theorem dX9_sent_113 : decode cX9_sent 113 = .ok (.aload_n 0, 1) := by decide +kernel
theorem dX9_sent_114 : decode cX9_sent 114 = .ok (.iload_n 2, 1) := by decide +kernel
theorem dX9_sent_115 : decode cX9_sent 115 = .ok (.iload 4, 2) := by decide +kernel
theorem dX9_sent_117 : decode cX9_sent 117 = .ok (.iconst (-1), 1) := by decide +kernel
theorem dX9_sent_118 : decode cX9_sent 118 = .ok (.ixor, 1) := by decide +kernel
theorem dX9_sent_119 : decode cX9_sent 119 = .ok (.iand, 1) := by decide +kernel
theorem dX9_sent_120 : decode cX9_sent 120 = .ok (.invokevirtual 306, 3) := by decide +kernel
theorem dX9_sent_123 : decode cX9_sent 123 = .ok (.iload_n 1, 1) := by decide +kernel
theorem dX9_sent_124 : decode cX9_sent 124 = .ok (.if_icmp .gt 6, 3) := by decide +kernel
theorem dX9_sent_127 : decode cX9_sent 127 = .ok (.iload 4, 2) := by decide +kernel
theorem dX9_sent_129 : decode cX9_sent 129 = .ok (.istore_n 3, 1) := by decide +kernel
theorem dX9_sent_130 : decode cX9_sent 130 = .ok (.iinc 4 1, 3) := by decide +kernel
theorem dX9_sent_133 : decode cX9_sent 133 = .ok (.goto (-91), 3) := by decide +kernel
theorem dX9_sent_136 : decode cX9_sent 136 = .ok (.iload_n 3, 1) := by decide +kernel
theorem dX9_sent_137 : decode cX9_sent 137 = .ok (.ireturn, 1) := by decide +kernel
def lp_X9_sent_42 (a1 : Int32) (μ : Mem) (q1 : Int32) : Nat → Int32 → Int32 → Option (Nat × Int32 × Mem)
  | 0, _, _ => none
  | n + 1, x2, x3 => if 256 ≤ x3 then (some (0, x2, μ)) else ((f_J6_bitCount_0f7a4 x3).bind fun (q4 : Int32) => (f_J6_bitCount_0f7a4 x2).bind fun (q5 : Int32) => nm (fun (x6 : Int32) => nm (fun (x7 : Int32) => if x7 = 0 then (lp_X9_sent_42 a1 μ q1 n x2 (x3 + 1)) else (nm ((f_X9_oddsBy μ (q1 &&& (x3 ^^^ (-1)))).bind fun (q8 : Int32) => if a1 < q8 then (lp_X9_sent_42 a1 μ q1 n x2 (x3 + 1)) else (lp_X9_sent_42 a1 μ q1 n x3 (x3 + 1))) fun (J113 : Option (Nat × Int32 × Mem)) => if x6 = 0 then (if x2 ≤ x3 then (lp_X9_sent_42 a1 μ q1 n x2 (x3 + 1)) else ((f_J6_bitCount_0f7a4 x3).bind fun (q9 : Int32) => (f_J6_bitCount_0f7a4 x2).bind fun (q10 : Int32) => if q9 = q10 then (J113) else (lp_X9_sent_42 a1 μ q1 n x2 (x3 + 1)))) else (J113))) fun (J83 : Int32 → Option (Nat × Int32 × Mem)) => if (x3 &&& (q1 ^^^ (-1))) = 0 then (J83 1) else (J83 0)) fun (J67 : Int32 → Option (Nat × Int32 × Mem)) => if q5 ≤ q4 then (J67 0) else (J67 1))
def f_X9_sent (μ : Mem) (a1 : Int32) : Option (Nat × Int32 × Mem) := nm (some (1, 0, μ)) fun (J11 : Option (Nat × Int32 × Mem)) => if a1 < 0 then (J11) else (if a1 ≤ 9999 then ((f_X2_watchers 0 μ (μ 1 0 8)).bind fun (q1 : Int32) => lp_X9_sent_42 a1 μ q1 4096 q1 0) else (J11))
set_option maxHeartbeats 4000000 in
set_option maxRecDepth 100000 in
theorem c_X9_sent (G : GG) (l : Launch) (hl0 : l.stackTraces = false) (μ : Mem) (a1 : Int32) : CXT G l yX9_sent (.code yX9_sent cX9_sent 7 (some .int)) 5 [.ref (gad G 0 0), .int a1] μ (f_X9_sent μ a1) := by
  refine CXT.of (own := "SaturdayKeep") (L0 := [some (.ref (gad G 0 0)), some (.int a1), none, none, none, none, none]) hl0 rfl rfl rfl (Nat.le_of_ble_eq_true rfl) (fun C hl1 hl hout hcs hC => ?_)
  subst hl1
  delta f_X9_sent
  refine aw_iload_n (pc := 0) (i := 1) hC dX9_sent_0 rfl rfl ?_
  refine aw_nmJ (fun (J11 : Option (Nat × Int32 × Mem)) => AW G C (qX G C) 0 0 7 μ 11 [none, none, none, none, none, none, none] [] (J11)) ?_ (fun J11 hJ11 => ?_)
  · skip
    exact aw_throwW (k := 1) (i := 41) hC hl hout hcs rfl rfl kw745 kw21 thr1_97 (by decide) (by decide) (Nat.le_of_ble_eq_true rfl) dX9_sent_11 dX9_sent_14 dX9_sent_15 dX9_sent_18 dX9_sent_21
  · skip
    refine aw_if_lt (pc := 1) (tgt := 11) hC dX9_sent_1 (by decide) (fun _ => ?_) (fun _ => ?_)
    · skip
      exact aw_drop [0, 1] (hJ11)
    · skip
      refine aw_iload_n (pc := 4) (i := 1) hC dX9_sent_4 rfl rfl ?_
      refine aw_sipush (pc := 5) (v := 9999) hC dX9_sent_5 sc9999 ?_
      refine aw_icmp_le (pc := 8) (tgt := 22) hC dX9_sent_8 (by decide) (fun _ => ?_) (fun _ => ?_)
      · skip
        refine aw_aload_n (pc := 22) (i := 0) hC dX9_sent_22 rfl rfl ?_
        refine aw_get (pc := 23) hC inX9 (v0 (j := 0) (by decide)) rfl rfl 4 (by decide) kw280 rfl rfl dX9_sent_23 ?_
        refine aw_aload_n (pc := 26) (i := 0) hC dX9_sent_26 rfl rfl ?_
        refine aw_get (pc := 27) hC inX9 (v0 (j := 0) (by decide)) rfl rfl 4 (by decide) kw280 rfl rfl dX9_sent_27 ?_
        refine aw_get (pc := 30) hC inX2 (vH (h := 0) (j := 0) (by decide) (by decide)) rfl rfl 8 (by decide) kw200 rfl rfl dX9_sent_30 ?_
        refine aw_callVR (pc := 33) (As := [.int (μ 1 0 8)]) hC mb_X2_watchers kw383 (by decide) (c_X2_watchers G C.2.1 0 (by decide) μ (μ 1 0 8)) (vH (h := 0) (j := 0) (by decide) (by decide)) rfl rfl rfl (Nat.le_of_ble_eq_true rfl) dX9_sent_33 (fun q1 => ?_)
        refine aw_istore_n (pc := 36) (i := 2) hC dX9_sent_36 rfl rfl (by decide) ?_
        refine aw_iload_n (pc := 37) (i := 2) hC dX9_sent_37 rfl rfl ?_
        refine aw_istore_n (pc := 38) (i := 3) hC dX9_sent_38 rfl rfl (by decide) ?_
        refine aw_iconst (pc := 39) (v := 0) hC dX9_sent_39 ic0 ?_
        refine aw_istore (pc := 40) hC dX9_sent_40 rfl (by decide) ?_
        have hL42 : ∀ (n : Nat) (x2 : Int32) (x3 : Int32), AW G C (qX G C) 0 0 7 μ 42 [some (.ref (gad G 0 0)), some (.int a1), some (.int q1), some (.int x2), some (.int x3), none, none] [] (lp_X9_sent_42 a1 μ q1 n x2 x3) := by
          intro n
          induction n with
          | zero => intro x2 x3; exact aw_none
          | succ n ih =>
            intro x2 x3
            rw [lp_X9_sent_42]
            refine aw_iload (pc := 42) hC dX9_sent_42 rfl ?_
            refine aw_sipush (pc := 44) (v := 256) hC dX9_sent_44 sc256 ?_
            refine aw_icmp_ge (pc := 47) (tgt := 136) hC dX9_sent_47 (by decide) (fun _ => ?_) (fun _ => ?_)
            · skip
              refine aw_iload_n (pc := 136) (i := 3) hC dX9_sent_136 rfl rfl ?_
              exact aw_iretX hC dX9_sent_137
            · skip
              refine aw_iload (pc := 50) hC dX9_sent_50 rfl ?_
              refine aw_callSR (pc := 52) (As := [.int x3]) hC ms_J6_bitCount_0f7a4 kw453 (by decide) (c_J6_bitCount_0f7a4 G C.2.1   μ x3) rfl (Nat.le_of_ble_eq_true rfl) dX9_sent_52 (fun q4 => ?_)
              refine aw_iload_n (pc := 55) (i := 3) hC dX9_sent_55 rfl rfl ?_
              refine aw_callSR (pc := 56) (As := [.int x2]) hC ms_J6_bitCount_0f7a4 kw453 (by decide) (c_J6_bitCount_0f7a4 G C.2.1   μ x2) rfl (Nat.le_of_ble_eq_true rfl) dX9_sent_56 (fun q5 => ?_)
              refine aw_nmJ (fun (J67 : Int32 → Option (Nat × Int32 × Mem)) => ∀ (x6 : Int32), AW G C (qX G C) 0 0 7 μ 67 [some (.ref (gad G 0 0)), some (.int a1), some (.int q1), some (.int x2), some (.int x3), none, none] [.int x6] (J67 x6)) (fun x6 => ?_) (fun J67 hJ67 => ?_)
              · skip
                refine aw_istore (pc := 67) hC dX9_sent_67 rfl (by decide) ?_
                refine aw_iload (pc := 69) hC dX9_sent_69 rfl ?_
                refine aw_iload_n (pc := 71) (i := 2) hC dX9_sent_71 rfl rfl ?_
                refine aw_iconst (pc := 72) (v := (-1)) hC dX9_sent_72 icm1 ?_
                refine aw_ixor (pc := 73) hC dX9_sent_73 ?_
                refine aw_iand (pc := 74) hC dX9_sent_74 ?_
                refine aw_nmJ (fun (J83 : Int32 → Option (Nat × Int32 × Mem)) => ∀ (x7 : Int32), AW G C (qX G C) 0 0 7 μ 83 [some (.ref (gad G 0 0)), some (.int a1), some (.int q1), some (.int x2), some (.int x3), some (.int x6), none] [.int x7] (J83 x7)) (fun x7 => ?_) (fun J83 hJ83 => ?_)
                · skip
                  refine aw_istore (pc := 83) hC dX9_sent_83 rfl (by decide) ?_
                  refine aw_iload (pc := 85) hC dX9_sent_85 rfl ?_
                  refine aw_if_eq (pc := 87) (tgt := 130) hC dX9_sent_87 (by decide) (fun _ => ?_) (fun _ => ?_)
                  · skip
                    refine aw_iinc (pc := 130) (v := x3 + 1) hC dX9_sent_130 rfl (congrArg (HAdd.hAdd _) ic1) rfl (by decide) ?_
                    refine aw_goto (pc := 133) (tgt := 42) hC dX9_sent_133 (by decide) ?_
                    exact aw_drop [5, 6] (ih x2 (x3 + 1))
                  · skip
                    refine aw_iload (pc := 90) hC dX9_sent_90 rfl ?_
                    refine aw_nmJ (fun (J113 : Option (Nat × Int32 × Mem)) => AW G C (qX G C) 0 0 7 μ 113 [some (.ref (gad G 0 0)), some (.int a1), some (.int q1), some (.int x2), some (.int x3), none, none] [] (J113)) ?_ (fun J113 hJ113 => ?_)
                    · skip
                      refine aw_aload_n (pc := 113) (i := 0) hC dX9_sent_113 rfl rfl ?_
                      refine aw_iload_n (pc := 114) (i := 2) hC dX9_sent_114 rfl rfl ?_
                      refine aw_iload (pc := 115) hC dX9_sent_115 rfl ?_
                      refine aw_iconst (pc := 117) (v := (-1)) hC dX9_sent_117 icm1 ?_
                      refine aw_ixor (pc := 118) hC dX9_sent_118 ?_
                      refine aw_iand (pc := 119) hC dX9_sent_119 ?_
                      refine aw_callVR (pc := 120) (As := [.int (q1 &&& (x3 ^^^ (-1)))]) hC mb_X9_oddsBy kw411 (by decide) (c_X9_oddsBy G C.2.1   μ (q1 &&& (x3 ^^^ (-1)))) (v0 (j := 0) (by decide)) rfl rfl rfl (Nat.le_of_ble_eq_true rfl) dX9_sent_120 (fun q8 => ?_)
                      refine aw_iload_n (pc := 123) (i := 1) hC dX9_sent_123 rfl rfl ?_
                      refine aw_icmp_gt (pc := 124) (tgt := 130) hC dX9_sent_124 (by decide) (fun _ => ?_) (fun _ => ?_)
                      · skip
                        refine aw_iinc (pc := 130) (v := x3 + 1) hC dX9_sent_130 rfl (congrArg (HAdd.hAdd _) ic1) rfl (by decide) ?_
                        refine aw_goto (pc := 133) (tgt := 42) hC dX9_sent_133 (by decide) ?_
                        exact ih x2 (x3 + 1)
                      · skip
                        refine aw_iload (pc := 127) hC dX9_sent_127 rfl ?_
                        refine aw_istore_n (pc := 129) (i := 3) hC dX9_sent_129 rfl rfl (by decide) ?_
                        refine aw_iinc (pc := 130) (v := x3 + 1) hC dX9_sent_130 rfl (congrArg (HAdd.hAdd _) ic1) rfl (by decide) ?_
                        refine aw_goto (pc := 133) (tgt := 42) hC dX9_sent_133 (by decide) ?_
                        exact ih x3 (x3 + 1)
                    · skip
                      refine aw_if_ne (pc := 92) (tgt := 113) hC dX9_sent_92 (by decide) (fun _ => ?_) (fun _ => ?_)
                      · skip
                        refine aw_iload (pc := 95) hC dX9_sent_95 rfl ?_
                        refine aw_iload_n (pc := 97) (i := 3) hC dX9_sent_97 rfl rfl ?_
                        refine aw_icmp_ge (pc := 98) (tgt := 130) hC dX9_sent_98 (by decide) (fun _ => ?_) (fun _ => ?_)
                        · skip
                          refine aw_iinc (pc := 130) (v := x3 + 1) hC dX9_sent_130 rfl (congrArg (HAdd.hAdd _) ic1) rfl (by decide) ?_
                          refine aw_goto (pc := 133) (tgt := 42) hC dX9_sent_133 (by decide) ?_
                          exact aw_drop [5, 6] (ih x2 (x3 + 1))
                        · skip
                          refine aw_iload (pc := 101) hC dX9_sent_101 rfl ?_
                          refine aw_callSR (pc := 103) (As := [.int x3]) hC ms_J6_bitCount_0f7a4 kw453 (by decide) (c_J6_bitCount_0f7a4 G C.2.1   μ x3) rfl (Nat.le_of_ble_eq_true rfl) dX9_sent_103 (fun q9 => ?_)
                          refine aw_iload_n (pc := 106) (i := 3) hC dX9_sent_106 rfl rfl ?_
                          refine aw_callSR (pc := 107) (As := [.int x2]) hC ms_J6_bitCount_0f7a4 kw453 (by decide) (c_J6_bitCount_0f7a4 G C.2.1   μ x2) rfl (Nat.le_of_ble_eq_true rfl) dX9_sent_107 (fun q10 => ?_)
                          refine aw_icmp_ne (pc := 110) (tgt := 130) hC dX9_sent_110 (by decide) (fun _ => ?_) (fun _ => ?_)
                          · skip
                            exact aw_drop [5, 6] (hJ113)
                          · skip
                            refine aw_iinc (pc := 130) (v := x3 + 1) hC dX9_sent_130 rfl (congrArg (HAdd.hAdd _) ic1) rfl (by decide) ?_
                            refine aw_goto (pc := 133) (tgt := 42) hC dX9_sent_133 (by decide) ?_
                            exact aw_drop [5, 6] (ih x2 (x3 + 1))
                      · skip
                        exact aw_drop [5, 6] (hJ113)
                · skip
                  refine aw_if_ne (pc := 75) (tgt := 82) hC dX9_sent_75 (by decide) (fun _ => ?_) (fun _ => ?_)
                  · skip
                    refine aw_iconst (pc := 78) (v := 1) hC dX9_sent_78 ic1 ?_
                    refine aw_goto (pc := 79) (tgt := 83) hC dX9_sent_79 (by decide) ?_
                    exact hJ83 1
                  · skip
                    refine aw_iconst (pc := 82) (v := 0) hC dX9_sent_82 ic0 ?_
                    exact hJ83 0
              · skip
                refine aw_icmp_ge (pc := 59) (tgt := 66) hC dX9_sent_59 (by decide) (fun _ => ?_) (fun _ => ?_)
                · skip
                  refine aw_iconst (pc := 66) (v := 0) hC dX9_sent_66 ic0 ?_
                  exact hJ67 0
                · skip
                  refine aw_iconst (pc := 62) (v := 1) hC dX9_sent_62 ic1 ?_
                  refine aw_goto (pc := 63) (tgt := 67) hC dX9_sent_63 (by decide) ?_
                  exact hJ67 1
        exact hL42 4096 q1 0
      · skip
        exact aw_drop [0, 1] (hJ11)
theorem dX9_hostHas_0 : decode cX9_hostHas 0 = .ok (.iload_n 0, 1) := by decide +kernel
theorem dX9_hostHas_1 : decode cX9_hostHas 1 = .ok (.iconst 2, 1) := by decide +kernel
theorem dX9_hostHas_2 : decode cX9_hostHas 2 = .ok (.if_icmp .ge 7, 3) := by decide +kernel
theorem dX9_hostHas_5 : decode cX9_hostHas 5 = .ok (.iconst 1, 1) := by decide +kernel
theorem dX9_hostHas_6 : decode cX9_hostHas 6 = .ok (.goto 4, 3) := by decide +kernel
theorem dX9_hostHas_9 : decode cX9_hostHas 9 = .ok (.iconst 0, 1) := by decide +kernel
theorem dX9_hostHas_10 : decode cX9_hostHas 10 = .ok (.istore_n 2, 1) := by decide +kernel
theorem dX9_hostHas_11 : decode cX9_hostHas 11 = .ok (.iload_n 0, 1) := by decide +kernel
theorem dX9_hostHas_12 : decode cX9_hostHas 12 = .ok (.ifCond .ne 11, 3) := by decide +kernel
theorem dX9_hostHas_15 : decode cX9_hostHas 15 = .ok (.iload_n 1, 1) := by decide +kernel
theorem dX9_hostHas_16 : decode cX9_hostHas 16 = .ok (.ifCond .eq 7, 3) := by decide +kernel
theorem dX9_hostHas_19 : decode cX9_hostHas 19 = .ok (.iconst 1, 1) := by decide +kernel
theorem dX9_hostHas_20 : decode cX9_hostHas 20 = .ok (.goto 4, 3) := by decide +kernel
theorem dX9_hostHas_23 : decode cX9_hostHas 23 = .ok (.iconst 0, 1) := by decide +kernel
theorem dX9_hostHas_24 : decode cX9_hostHas 24 = .ok (.istore_n 3, 1) := by decide +kernel
theorem dX9_hostHas_25 : decode cX9_hostHas 25 = .ok (.iload_n 2, 1) := by decide +kernel
theorem dX9_hostHas_26 : decode cX9_hostHas 26 = .ok (.ifCond .ne 5, 3) := by decide +kernel
theorem dX9_hostHas_29 : decode cX9_hostHas 29 = .ok (.iconst 0, 1) := by decide +kernel
theorem dX9_hostHas_30 : decode cX9_hostHas 30 = .ok (.ireturn, 1) := by decide +kernel
theorem dX9_hostHas_31 : decode cX9_hostHas 31 = .ok (.iload_n 3, 1) := by decide +kernel
theorem dX9_hostHas_32 : decode cX9_hostHas 32 = .ok (.ifCond .eq 8, 3) := by decide +kernel
theorem dX9_hostHas_35 : decode cX9_hostHas 35 = .ok (.bipush (-20), 2) := by decide +kernel
theorem dX9_hostHas_37 : decode cX9_hostHas 37 = .ok (.goto 5, 3) := by decide +kernel
theorem dX9_hostHas_40 : decode cX9_hostHas 40 = .ok (.bipush 10, 2) := by decide +kernel
theorem dX9_hostHas_42 : decode cX9_hostHas 42 = .ok (.ireturn, 1) := by decide +kernel
def f_X9_hostHas (a1 : Int32) (a2 : Int32) : Option (Int32) := nm (fun (x1 : Int32) => nm (fun (x2 : Int32) => if x1 = 0 then (some 0) else (if x2 = 0 then (some 10) else (some (-20)))) fun (J24 : Int32 → Option (Int32)) => nm (J24 0) fun (J23 : Option (Int32)) => if a1 = 0 then (if a2 = 0 then (J23) else (J24 1)) else (J23)) fun (J10 : Int32 → Option (Int32)) => if 2 ≤ a1 then (J10 0) else (J10 1)
set_option maxHeartbeats 4000000 in
set_option maxRecDepth 100000 in
theorem c_X9_hostHas (G : GG) (l : Launch) (μ : Mem) (a1 : Int32) (a2 : Int32) : CR G l yX9_hostHas (.code yX9_hostHas cX9_hostHas 4 (some .int)) 1 [.int a1, .int a2] μ (f_X9_hostHas a1 a2) := by
  refine CR.of (own := "SaturdayKeep") (L0 := [some (.int a1), some (.int a2), none, none]) rfl rfl rfl (Nat.le_of_ble_eq_true rfl) (fun C hl hC => ?_)
  subst hl
  delta f_X9_hostHas
  refine aw_iload_n (pc := 0) (i := 0) hC dX9_hostHas_0 rfl rfl ?_
  refine aw_iconst (pc := 1) (v := 2) hC dX9_hostHas_1 ic2 ?_
  refine aw_nmJ (fun (J10 : Int32 → Option (Int32)) => ∀ (x1 : Int32), AW G C (qR G C 0 0 μ) 0 0 4 μ 10 [some (.int a1), some (.int a2), none, none] [.int x1] (J10 x1)) (fun x1 => ?_) (fun J10 hJ10 => ?_)
  · skip
    refine aw_istore_n (pc := 10) (i := 2) hC dX9_hostHas_10 rfl rfl (by decide) ?_
    refine aw_iload_n (pc := 11) (i := 0) hC dX9_hostHas_11 rfl rfl ?_
    refine aw_nmJ (fun (J24 : Int32 → Option (Int32)) => ∀ (x2 : Int32), AW G C (qR G C 0 0 μ) 0 0 4 μ 24 [none, none, some (.int x1), none] [.int x2] (J24 x2)) (fun x2 => ?_) (fun J24 hJ24 => ?_)
    · skip
      refine aw_istore_n (pc := 24) (i := 3) hC dX9_hostHas_24 rfl rfl (by decide) ?_
      refine aw_iload_n (pc := 25) (i := 2) hC dX9_hostHas_25 rfl rfl ?_
      refine aw_if_ne (pc := 26) (tgt := 31) hC dX9_hostHas_26 (by decide) (fun _ => ?_) (fun _ => ?_)
      · skip
        refine aw_iconst (pc := 29) (v := 0) hC dX9_hostHas_29 ic0 ?_
        exact aw_iretR hC dX9_hostHas_30
      · skip
        refine aw_iload_n (pc := 31) (i := 3) hC dX9_hostHas_31 rfl rfl ?_
        refine aw_if_eq (pc := 32) (tgt := 40) hC dX9_hostHas_32 (by decide) (fun _ => ?_) (fun _ => ?_)
        · skip
          refine aw_bipush (pc := 40) (v := 10) hC dX9_hostHas_40 bc10 ?_
          exact aw_iretR hC dX9_hostHas_42
        · skip
          refine aw_bipush (pc := 35) (v := (-20)) hC dX9_hostHas_35 bcm20 ?_
          refine aw_goto (pc := 37) (tgt := 42) hC dX9_hostHas_37 (by decide) ?_
          exact aw_iretR hC dX9_hostHas_42
    · skip
      refine aw_nmJ (fun (J23 : Option (Int32)) => AW G C (qR G C 0 0 μ) 0 0 4 μ 23 [none, none, some (.int x1), none] [] (J23)) ?_ (fun J23 hJ23 => ?_)
      · skip
        refine aw_iconst (pc := 23) (v := 0) hC dX9_hostHas_23 ic0 ?_
        exact hJ24 0
      · skip
        refine aw_if_ne (pc := 12) (tgt := 23) hC dX9_hostHas_12 (by decide) (fun _ => ?_) (fun _ => ?_)
        · skip
          refine aw_iload_n (pc := 15) (i := 1) hC dX9_hostHas_15 rfl rfl ?_
          refine aw_if_eq (pc := 16) (tgt := 23) hC dX9_hostHas_16 (by decide) (fun _ => ?_) (fun _ => ?_)
          · skip
            exact aw_drop [0, 1] (hJ23)
          · skip
            refine aw_iconst (pc := 19) (v := 1) hC dX9_hostHas_19 ic1 ?_
            refine aw_goto (pc := 20) (tgt := 24) hC dX9_hostHas_20 (by decide) ?_
            exact aw_drop [0, 1] (hJ24 1)
        · skip
          exact aw_drop [0, 1] (hJ23)
  · skip
    refine aw_icmp_ge (pc := 2) (tgt := 9) hC dX9_hostHas_2 (by decide) (fun _ => ?_) (fun _ => ?_)
    · skip
      refine aw_iconst (pc := 9) (v := 0) hC dX9_hostHas_9 ic0 ?_
      exact hJ10 0
    · skip
      refine aw_iconst (pc := 5) (v := 1) hC dX9_hostHas_5 ic1 ?_
      refine aw_goto (pc := 6) (tgt := 10) hC dX9_hostHas_6 (by decide) ?_
      exact hJ10 1
theorem dX9_guestHas_0 : decode cX9_guestHas 0 = .ok (.iload_n 0, 1) := by decide +kernel
theorem dX9_guestHas_1 : decode cX9_guestHas 1 = .ok (.iconst 2, 1) := by decide +kernel
theorem dX9_guestHas_2 : decode cX9_guestHas 2 = .ok (.irem, 1) := by decide +kernel
theorem dX9_guestHas_3 : decode cX9_guestHas 3 = .ok (.ifCond .ne 7, 3) := by decide +kernel
theorem dX9_guestHas_6 : decode cX9_guestHas 6 = .ok (.iconst 1, 1) := by decide +kernel
theorem dX9_guestHas_7 : decode cX9_guestHas 7 = .ok (.goto 4, 3) := by decide +kernel
theorem dX9_guestHas_10 : decode cX9_guestHas 10 = .ok (.iconst 0, 1) := by decide +kernel
theorem dX9_guestHas_11 : decode cX9_guestHas 11 = .ok (.istore_n 3, 1) := by decide +kernel
theorem dX9_guestHas_12 : decode cX9_guestHas 12 = .ok (.iload_n 0, 1) := by decide +kernel
theorem dX9_guestHas_13 : decode cX9_guestHas 13 = .ok (.ifCond .ne 11, 3) := by decide +kernel
theorem dX9_guestHas_16 : decode cX9_guestHas 16 = .ok (.iload_n 1, 1) := by decide +kernel
theorem dX9_guestHas_17 : decode cX9_guestHas 17 = .ok (.ifCond .eq 7, 3) := by decide +kernel
theorem dX9_guestHas_20 : decode cX9_guestHas 20 = .ok (.iconst 1, 1) := by decide +kernel
theorem dX9_guestHas_21 : decode cX9_guestHas 21 = .ok (.goto 4, 3) := by decide +kernel
theorem dX9_guestHas_24 : decode cX9_guestHas 24 = .ok (.iconst 0, 1) := by decide +kernel
theorem dX9_guestHas_25 : decode cX9_guestHas 25 = .ok (.istore 4, 2) := by decide +kernel
theorem dX9_guestHas_27 : decode cX9_guestHas 27 = .ok (.iload_n 3, 1) := by decide +kernel
theorem dX9_guestHas_28 : decode cX9_guestHas 28 = .ok (.ifCond .ne 5, 3) := by decide +kernel
theorem dX9_guestHas_31 : decode cX9_guestHas 31 = .ok (.iconst 0, 1) := by decide +kernel
theorem dX9_guestHas_32 : decode cX9_guestHas 32 = .ok (.ireturn, 1) := by decide +kernel
theorem dX9_guestHas_33 : decode cX9_guestHas 33 = .ok (.iload 4, 2) := by decide +kernel
theorem dX9_guestHas_35 : decode cX9_guestHas 35 = .ok (.ifCond .eq 7, 3) := by decide +kernel
theorem dX9_guestHas_38 : decode cX9_guestHas 38 = .ok (.iload_n 2, 1) := by decide +kernel
theorem dX9_guestHas_39 : decode cX9_guestHas 39 = .ok (.goto 5, 3) := by decide +kernel
theorem dX9_guestHas_42 : decode cX9_guestHas 42 = .ok (.bipush (-3), 2) := by decide +kernel
theorem dX9_guestHas_44 : decode cX9_guestHas 44 = .ok (.ireturn, 1) := by decide +kernel
def f_X9_guestHas (a1 : Int32) (a2 : Int32) (a3 : Int32) : Option (Int32) := nm (fun (x1 : Int32) => nm (fun (x2 : Int32) => if x1 = 0 then (some 0) else (if x2 = 0 then (some (-3)) else (some a3))) fun (J25 : Int32 → Option (Int32)) => nm (J25 0) fun (J24 : Option (Int32)) => if a1 = 0 then (if a2 = 0 then (J24) else (J25 1)) else (J24)) fun (J11 : Int32 → Option (Int32)) => if (jrem a1 2) = 0 then (J11 1) else (J11 0)
set_option maxHeartbeats 4000000 in
set_option maxRecDepth 100000 in
theorem c_X9_guestHas (G : GG) (l : Launch) (μ : Mem) (a1 : Int32) (a2 : Int32) (a3 : Int32) : CR G l yX9_guestHas (.code yX9_guestHas cX9_guestHas 5 (some .int)) 1 [.int a1, .int a2, .int a3] μ (f_X9_guestHas a1 a2 a3) := by
  refine CR.of (own := "SaturdayKeep") (L0 := [some (.int a1), some (.int a2), some (.int a3), none, none]) rfl rfl rfl (Nat.le_of_ble_eq_true rfl) (fun C hl hC => ?_)
  subst hl
  delta f_X9_guestHas
  refine aw_iload_n (pc := 0) (i := 0) hC dX9_guestHas_0 rfl rfl ?_
  refine aw_iconst (pc := 1) (v := 2) hC dX9_guestHas_1 ic2 ?_
  refine aw_irem (pc := 2) hC dX9_guestHas_2 (by decide) ?_
  refine aw_nmJ (fun (J11 : Int32 → Option (Int32)) => ∀ (x1 : Int32), AW G C (qR G C 0 0 μ) 0 0 5 μ 11 [some (.int a1), some (.int a2), some (.int a3), none, none] [.int x1] (J11 x1)) (fun x1 => ?_) (fun J11 hJ11 => ?_)
  · skip
    refine aw_istore_n (pc := 11) (i := 3) hC dX9_guestHas_11 rfl rfl (by decide) ?_
    refine aw_iload_n (pc := 12) (i := 0) hC dX9_guestHas_12 rfl rfl ?_
    refine aw_nmJ (fun (J25 : Int32 → Option (Int32)) => ∀ (x2 : Int32), AW G C (qR G C 0 0 μ) 0 0 5 μ 25 [none, none, some (.int a3), some (.int x1), none] [.int x2] (J25 x2)) (fun x2 => ?_) (fun J25 hJ25 => ?_)
    · skip
      refine aw_istore (pc := 25) hC dX9_guestHas_25 rfl (by decide) ?_
      refine aw_iload_n (pc := 27) (i := 3) hC dX9_guestHas_27 rfl rfl ?_
      refine aw_if_ne (pc := 28) (tgt := 33) hC dX9_guestHas_28 (by decide) (fun _ => ?_) (fun _ => ?_)
      · skip
        refine aw_iconst (pc := 31) (v := 0) hC dX9_guestHas_31 ic0 ?_
        exact aw_iretR hC dX9_guestHas_32
      · skip
        refine aw_iload (pc := 33) hC dX9_guestHas_33 rfl ?_
        refine aw_if_eq (pc := 35) (tgt := 42) hC dX9_guestHas_35 (by decide) (fun _ => ?_) (fun _ => ?_)
        · skip
          refine aw_bipush (pc := 42) (v := (-3)) hC dX9_guestHas_42 bcm3 ?_
          exact aw_iretR hC dX9_guestHas_44
        · skip
          refine aw_iload_n (pc := 38) (i := 2) hC dX9_guestHas_38 rfl rfl ?_
          refine aw_goto (pc := 39) (tgt := 44) hC dX9_guestHas_39 (by decide) ?_
          exact aw_iretR hC dX9_guestHas_44
    · skip
      refine aw_nmJ (fun (J24 : Option (Int32)) => AW G C (qR G C 0 0 μ) 0 0 5 μ 24 [none, none, some (.int a3), some (.int x1), none] [] (J24)) ?_ (fun J24 hJ24 => ?_)
      · skip
        refine aw_iconst (pc := 24) (v := 0) hC dX9_guestHas_24 ic0 ?_
        exact hJ25 0
      · skip
        refine aw_if_ne (pc := 13) (tgt := 24) hC dX9_guestHas_13 (by decide) (fun _ => ?_) (fun _ => ?_)
        · skip
          refine aw_iload_n (pc := 16) (i := 1) hC dX9_guestHas_16 rfl rfl ?_
          refine aw_if_eq (pc := 17) (tgt := 24) hC dX9_guestHas_17 (by decide) (fun _ => ?_) (fun _ => ?_)
          · skip
            exact aw_drop [0, 1] (hJ24)
          · skip
            refine aw_iconst (pc := 20) (v := 1) hC dX9_guestHas_20 ic1 ?_
            refine aw_goto (pc := 21) (tgt := 25) hC dX9_guestHas_21 (by decide) ?_
            exact aw_drop [0, 1] (hJ25 1)
        · skip
          exact aw_drop [0, 1] (hJ24)
  · skip
    refine aw_if_ne (pc := 3) (tgt := 10) hC dX9_guestHas_3 (by decide) (fun _ => ?_) (fun _ => ?_)
    · skip
      refine aw_iconst (pc := 6) (v := 1) hC dX9_guestHas_6 ic1 ?_
      refine aw_goto (pc := 7) (tgt := 11) hC dX9_guestHas_7 (by decide) ?_
      exact hJ11 1
    · skip
      refine aw_iconst (pc := 10) (v := 0) hC dX9_guestHas_10 ic0 ?_
      exact hJ11 0
theorem dX9_rests_0 : decode cX9_rests 0 = .ok (.aload_n 0, 1) := by decide +kernel
theorem dX9_rests_1 : decode cX9_rests 1 = .ok (.iload_n 1, 1) := by decide +kernel
theorem dX9_rests_2 : decode cX9_rests 2 = .ok (.invokevirtual 130, 3) := by decide +kernel
theorem dX9_rests_5 : decode cX9_rests 5 = .ok (.ifCond .ne 13, 3) := by decide +kernel
theorem dX9_rests_8 : decode cX9_rests 8 = .ok (.new 134, 3) := by decide +kernel
theorem dX9_rests_11 : decode cX9_rests 11 = .ok (.dup, 1) := by decide +kernel
theorem dX9_rests_12 : decode cX9_rests 12 = .ok (.ldc 136, 2) := by decide +kernel
theorem dX9_rests_14 : decode cX9_rests 14 = .ok (.invokespecial 138, 3) := by decide +kernel
theorem dX9_rests_17 : decode cX9_rests 17 = .ok (.athrow, 1) := by decide +kernel
theorem dX9_rests_18 : decode cX9_rests 18 = .ok (.aload_n 0, 1) := by decide +kernel
theorem dX9_rests_19 : decode cX9_rests 19 = .ok (.getfield 42, 3) := by decide +kernel
theorem dX9_rests_22 : decode cX9_rests 22 = .ok (.aload_n 0, 1) := by decide +kernel
theorem dX9_rests_23 : decode cX9_rests 23 = .ok (.getfield 42, 3) := by decide +kernel
theorem dX9_rests_26 : decode cX9_rests 26 = .ok (.getfield 239, 3) := by decide +kernel
theorem dX9_rests_29 : decode cX9_rests 29 = .ok (.invokevirtual 199, 3) := by decide +kernel
theorem dX9_rests_32 : decode cX9_rests 32 = .ok (.iload_n 1, 1) := by decide +kernel
theorem dX9_rests_33 : decode cX9_rests 33 = .ok (.invokestatic 158, 3) := by decide +kernel
theorem dX9_rests_36 : decode cX9_rests 36 = .ok (.istore_n 2, 1) := by decide +kernel
theorem dX9_rests_37 : decode cX9_rests 37 = .ok (.aload_n 0, 1) := by decide +kernel
theorem dX9_rests_38 : decode cX9_rests 38 = .ok (.getfield 42, 3) := by decide +kernel
theorem dX9_rests_41 : decode cX9_rests 41 = .ok (.getfield 139, 3) := by decide +kernel
theorem dX9_rests_44 : decode cX9_rests 44 = .ok (.iload_n 1, 1) := by decide +kernel
theorem dX9_rests_45 : decode cX9_rests 45 = .ok (.invokevirtual 149, 3) := by decide +kernel
theorem dX9_rests_48 : decode cX9_rests 48 = .ok (.istore_n 3, 1) := by decide +kernel
theorem dX9_rests_49 : decode cX9_rests 49 = .ok (.iconst 0, 1) := by decide +kernel
theorem dX9_rests_50 : decode cX9_rests 50 = .ok (.istore 4, 2) := by decide +kernel
theorem dX9_rests_52 : decode cX9_rests 52 = .ok (.iconst 0, 1) := by decide +kernel
theorem dX9_rests_53 : decode cX9_rests 53 = .ok (.istore 5, 2) := by decide +kernel
theorem dX9_rests_55 : decode cX9_rests 55 = .ok (.iload 5, 2) := by decide +kernel
theorem dX9_rests_57 : decode cX9_rests 57 = .ok (.iconst 4, 1) := by decide +kernel
theorem dX9_rests_58 : decode cX9_rests 58 = .ok (.if_icmp .ge 62, 3) := by decide +kernel
theorem dX9_rests_61 : decode cX9_rests 61 = .ok (.iload 5, 2) := by decide +kernel
theorem dX9_rests_63 : decode cX9_rests 63 = .ok (.iconst 2, 1) := by decide +kernel
theorem dX9_rests_64 : decode cX9_rests 64 = .ok (.ixor, 1) := by decide +kernel
theorem dX9_rests_65 : decode cX9_rests 65 = .ok (.istore 6, 2) := by decide +kernel
theorem dX9_rests_67 : decode cX9_rests 67 = .ok (.iload 5, 2) := by decide +kernel
theorem dX9_rests_69 : decode cX9_rests 69 = .ok (.iconst 1, 1) := by decide +kernel
theorem dX9_rests_70 : decode cX9_rests 70 = .ok (.ixor, 1) := by decide +kernel
theorem dX9_rests_71 : decode cX9_rests 71 = .ok (.istore 7, 2) := by decide +kernel
theorem dX9_rests_73 : decode cX9_rests 73 = .ok (.iload 5, 2) := by decide +kernel
theorem dX9_rests_75 : decode cX9_rests 75 = .ok (.iload_n 2, 1) := by decide +kernel
theorem dX9_rests_76 : decode cX9_rests 76 = .ok (.invokestatic 351, 3) := by decide +kernel
theorem dX9_rests_79 : decode cX9_rests 79 = .ok (.iload 6, 2) := by decide +kernel
theorem dX9_rests_81 : decode cX9_rests 81 = .ok (.iload_n 2, 1) := by decide +kernel
theorem dX9_rests_82 : decode cX9_rests 82 = .ok (.invokestatic 351, 3) := by decide +kernel
theorem dX9_rests_85 : decode cX9_rests 85 = .ok (.if_icmp .lt 29, 3) := by decide +kernel
theorem dX9_rests_88 : decode cX9_rests 88 = .ok (.iload 5, 2) := by decide +kernel
theorem dX9_rests_90 : decode cX9_rests 90 = .ok (.iload_n 2, 1) := by decide +kernel
theorem dX9_rests_91 : decode cX9_rests 91 = .ok (.iload_n 3, 1) := by decide +kernel
theorem dX9_rests_92 : decode cX9_rests 92 = .ok (.invokestatic 354, 3) := by decide +kernel
theorem dX9_rests_95 : decode cX9_rests 95 = .ok (.iload 7, 2) := by decide +kernel
theorem dX9_rests_97 : decode cX9_rests 97 = .ok (.iload_n 2, 1) := by decide +kernel
theorem dX9_rests_98 : decode cX9_rests 98 = .ok (.iload_n 3, 1) := by decide +kernel
theorem dX9_rests_99 : decode cX9_rests 99 = .ok (.invokestatic 354, 3) := by decide +kernel
theorem dX9_rests_102 : decode cX9_rests 102 = .ok (.if_icmp .lt 12, 3) := by decide +kernel
theorem dX9_rests_105 : decode cX9_rests 105 = .ok (.iload 4, 2) := by decide +kernel
theorem dX9_rests_107 : decode cX9_rests 107 = .ok (.iconst 1, 1) := by decide +kernel
theorem dX9_rests_108 : decode cX9_rests 108 = .ok (.iload 5, 2) := by decide +kernel
theorem dX9_rests_110 : decode cX9_rests 110 = .ok (.ishl, 1) := by decide +kernel
theorem dX9_rests_111 : decode cX9_rests 111 = .ok (.ior, 1) := by decide +kernel
theorem dX9_rests_112 : decode cX9_rests 112 = .ok (.istore 4, 2) := by decide +kernel
theorem dX9_rests_114 : decode cX9_rests 114 = .ok (.iinc 5 1, 3) := by decide +kernel
theorem dX9_rests_117 : decode cX9_rests 117 = .ok (.goto (-62), 3) := by decide +kernel
theorem dX9_rests_120 : decode cX9_rests 120 = .ok (.iload 4, 2) := by decide +kernel
theorem dX9_rests_122 : decode cX9_rests 122 = .ok (.ireturn, 1) := by decide +kernel
def lp_X9_rests_55 (μ : Mem) (q3 : Int32) (q4 : Int32) : Nat → Int32 → Int32 → Option (Nat × Int32 × Mem)
  | 0, _, _ => none
  | n + 1, x5, x6 => if 4 ≤ x6 then (some (0, x5, μ)) else ((f_X9_hostHas x6 q3).bind fun (q7 : Int32) => (f_X9_hostHas (x6 ^^^ 2) q3).bind fun (q8 : Int32) => if q7 < q8 then (lp_X9_rests_55 μ q3 q4 n x5 (x6 + 1)) else ((f_X9_guestHas x6 q3 q4).bind fun (q9 : Int32) => (f_X9_guestHas (x6 ^^^ 1) q3 q4).bind fun (q10 : Int32) => if q9 < q10 then (lp_X9_rests_55 μ q3 q4 n x5 (x6 + 1)) else (lp_X9_rests_55 μ q3 q4 n (x5 ||| (jshl 1 x6)) (x6 + 1))))
def f_X9_rests (μ : Mem) (a1 : Int32) : Option (Nat × Int32 × Mem) := (f_X9_isGuest μ a1).bind fun (q1 : Int32) => if q1 = 0 then (some (3, 0, μ)) else ((f_X2_watchers 0 μ (μ 1 0 8)).bind fun (q2 : Int32) => (f_X9_holds q2 a1).bind fun (q3 : Int32) => (f_X1_wishOf 0 μ a1).bind fun (q4 : Int32) => lp_X9_rests_55 μ q3 q4 4096 0 0)
set_option maxHeartbeats 4000000 in
set_option maxRecDepth 100000 in
theorem c_X9_rests (G : GG) (l : Launch) (hl0 : l.stackTraces = false) (μ : Mem) (a1 : Int32) : CXT G l yX9_rests (.code yX9_rests cX9_rests 8 (some .int)) 5 [.ref (gad G 0 0), .int a1] μ (f_X9_rests μ a1) := by
  refine CXT.of (own := "SaturdayKeep") (L0 := [some (.ref (gad G 0 0)), some (.int a1), none, none, none, none, none, none]) hl0 rfl rfl rfl (Nat.le_of_ble_eq_true rfl) (fun C hl1 hl hout hcs hC => ?_)
  subst hl1
  delta f_X9_rests
  refine aw_aload_n (pc := 0) (i := 0) hC dX9_rests_0 rfl rfl ?_
  refine aw_iload_n (pc := 1) (i := 1) hC dX9_rests_1 rfl rfl ?_
  refine aw_callVR (pc := 2) (As := [.int a1]) hC mb_X9_isGuest kw879 (by decide) (c_X9_isGuest G C.2.1   μ a1) (v0 (j := 0) (by decide)) rfl rfl rfl (Nat.le_of_ble_eq_true rfl) dX9_rests_2 (fun q1 => ?_)
  refine aw_if_ne (pc := 5) (tgt := 18) hC dX9_rests_5 (by decide) (fun _ => ?_) (fun _ => ?_)
  · skip
    exact aw_throw (k := 3) (i := 27) hC hl hout hcs rfl rfl kw883 kw23 thr3_138 (by decide) (by decide) (Nat.le_of_ble_eq_true rfl) dX9_rests_8 dX9_rests_11 dX9_rests_12 dX9_rests_14 dX9_rests_17
  · skip
    refine aw_aload_n (pc := 18) (i := 0) hC dX9_rests_18 rfl rfl ?_
    refine aw_get (pc := 19) hC inX9 (v0 (j := 0) (by decide)) rfl rfl 4 (by decide) kw280 rfl rfl dX9_rests_19 ?_
    refine aw_aload_n (pc := 22) (i := 0) hC dX9_rests_22 rfl rfl ?_
    refine aw_get (pc := 23) hC inX9 (v0 (j := 0) (by decide)) rfl rfl 4 (by decide) kw280 rfl rfl dX9_rests_23 ?_
    refine aw_get (pc := 26) hC inX2 (vH (h := 0) (j := 0) (by decide) (by decide)) rfl rfl 8 (by decide) kw200 rfl rfl dX9_rests_26 ?_
    refine aw_callVR (pc := 29) (As := [.int (μ 1 0 8)]) hC mb_X2_watchers kw383 (by decide) (c_X2_watchers G C.2.1 0 (by decide) μ (μ 1 0 8)) (vH (h := 0) (j := 0) (by decide) (by decide)) rfl rfl rfl (Nat.le_of_ble_eq_true rfl) dX9_rests_29 (fun q2 => ?_)
    refine aw_iload_n (pc := 32) (i := 1) hC dX9_rests_32 rfl rfl ?_
    refine aw_callSR (pc := 33) (As := [.int q2, .int a1]) hC ms_X9_holds kw415 (by decide) (c_X9_holds G C.2.1   μ q2 a1) rfl (Nat.le_of_ble_eq_true rfl) dX9_rests_33 (fun q3 => ?_)
    refine aw_istore_n (pc := 36) (i := 2) hC dX9_rests_36 rfl rfl (by decide) ?_
    refine aw_aload_n (pc := 37) (i := 0) hC dX9_rests_37 rfl rfl ?_
    refine aw_get (pc := 38) hC inX9 (v0 (j := 0) (by decide)) rfl rfl 4 (by decide) kw280 rfl rfl dX9_rests_38 ?_
    refine aw_get (pc := 41) hC inX2 (vH (h := 0) (j := 0) (by decide) (by decide)) rfl rfl 0 (by decide) kw186 rfl rfl dX9_rests_41 ?_
    refine aw_iload_n (pc := 44) (i := 1) hC dX9_rests_44 rfl rfl ?_
    refine aw_callVR (pc := 45) (As := [.int a1]) hC mb_X1_wishOf kw529 (by decide) (c_X1_wishOf G C.2.1 0 (by decide) μ a1) (vH (h := 0) (j := 1) (by decide) (by decide)) rfl rfl rfl (Nat.le_of_ble_eq_true rfl) dX9_rests_45 (fun q4 => ?_)
    refine aw_istore_n (pc := 48) (i := 3) hC dX9_rests_48 rfl rfl (by decide) ?_
    refine aw_iconst (pc := 49) (v := 0) hC dX9_rests_49 ic0 ?_
    refine aw_istore (pc := 50) hC dX9_rests_50 rfl (by decide) ?_
    refine aw_iconst (pc := 52) (v := 0) hC dX9_rests_52 ic0 ?_
    refine aw_istore (pc := 53) hC dX9_rests_53 rfl (by decide) ?_
    have hL55 : ∀ (n : Nat) (x5 : Int32) (x6 : Int32), AW G C (qX G C) 0 0 8 μ 55 [none, none, some (.int q3), some (.int q4), some (.int x5), some (.int x6), none, none] [] (lp_X9_rests_55 μ q3 q4 n x5 x6) := by
      intro n
      induction n with
      | zero => intro x5 x6; exact aw_none
      | succ n ih =>
        intro x5 x6
        rw [lp_X9_rests_55]
        refine aw_iload (pc := 55) hC dX9_rests_55 rfl ?_
        refine aw_iconst (pc := 57) (v := 4) hC dX9_rests_57 ic4 ?_
        refine aw_icmp_ge (pc := 58) (tgt := 120) hC dX9_rests_58 (by decide) (fun _ => ?_) (fun _ => ?_)
        · skip
          refine aw_iload (pc := 120) hC dX9_rests_120 rfl ?_
          exact aw_iretX hC dX9_rests_122
        · skip
          refine aw_iload (pc := 61) hC dX9_rests_61 rfl ?_
          refine aw_iconst (pc := 63) (v := 2) hC dX9_rests_63 ic2 ?_
          refine aw_ixor (pc := 64) hC dX9_rests_64 ?_
          refine aw_istore (pc := 65) hC dX9_rests_65 rfl (by decide) ?_
          refine aw_iload (pc := 67) hC dX9_rests_67 rfl ?_
          refine aw_iconst (pc := 69) (v := 1) hC dX9_rests_69 ic1 ?_
          refine aw_ixor (pc := 70) hC dX9_rests_70 ?_
          refine aw_istore (pc := 71) hC dX9_rests_71 rfl (by decide) ?_
          refine aw_iload (pc := 73) hC dX9_rests_73 rfl ?_
          refine aw_iload_n (pc := 75) (i := 2) hC dX9_rests_75 rfl rfl ?_
          refine aw_callSR (pc := 76) (As := [.int x6, .int q3]) hC ms_X9_hostHas kw1159 (by decide) (c_X9_hostHas G C.2.1   μ x6 q3) rfl (Nat.le_of_ble_eq_true rfl) dX9_rests_76 (fun q7 => ?_)
          refine aw_iload (pc := 79) hC dX9_rests_79 rfl ?_
          refine aw_iload_n (pc := 81) (i := 2) hC dX9_rests_81 rfl rfl ?_
          refine aw_callSR (pc := 82) (As := [.int (x6 ^^^ 2), .int q3]) hC ms_X9_hostHas kw1159 (by decide) (c_X9_hostHas G C.2.1   μ (x6 ^^^ 2) q3) rfl (Nat.le_of_ble_eq_true rfl) dX9_rests_82 (fun q8 => ?_)
          refine aw_icmp_lt (pc := 85) (tgt := 114) hC dX9_rests_85 (by decide) (fun _ => ?_) (fun _ => ?_)
          · skip
            refine aw_iinc (pc := 114) (v := x6 + 1) hC dX9_rests_114 rfl (congrArg (HAdd.hAdd _) ic1) rfl (by decide) ?_
            refine aw_goto (pc := 117) (tgt := 55) hC dX9_rests_117 (by decide) ?_
            exact aw_drop [6, 7] (ih x5 (x6 + 1))
          · skip
            refine aw_iload (pc := 88) hC dX9_rests_88 rfl ?_
            refine aw_iload_n (pc := 90) (i := 2) hC dX9_rests_90 rfl rfl ?_
            refine aw_iload_n (pc := 91) (i := 3) hC dX9_rests_91 rfl rfl ?_
            refine aw_callSR (pc := 92) (As := [.int x6, .int q3, .int q4]) hC ms_X9_guestHas kw1162 (by decide) (c_X9_guestHas G C.2.1   μ x6 q3 q4) rfl (Nat.le_of_ble_eq_true rfl) dX9_rests_92 (fun q9 => ?_)
            refine aw_iload (pc := 95) hC dX9_rests_95 rfl ?_
            refine aw_iload_n (pc := 97) (i := 2) hC dX9_rests_97 rfl rfl ?_
            refine aw_iload_n (pc := 98) (i := 3) hC dX9_rests_98 rfl rfl ?_
            refine aw_callSR (pc := 99) (As := [.int (x6 ^^^ 1), .int q3, .int q4]) hC ms_X9_guestHas kw1162 (by decide) (c_X9_guestHas G C.2.1   μ (x6 ^^^ 1) q3 q4) rfl (Nat.le_of_ble_eq_true rfl) dX9_rests_99 (fun q10 => ?_)
            refine aw_icmp_lt (pc := 102) (tgt := 114) hC dX9_rests_102 (by decide) (fun _ => ?_) (fun _ => ?_)
            · skip
              refine aw_iinc (pc := 114) (v := x6 + 1) hC dX9_rests_114 rfl (congrArg (HAdd.hAdd _) ic1) rfl (by decide) ?_
              refine aw_goto (pc := 117) (tgt := 55) hC dX9_rests_117 (by decide) ?_
              exact aw_drop [6, 7] (ih x5 (x6 + 1))
            · skip
              refine aw_iload (pc := 105) hC dX9_rests_105 rfl ?_
              refine aw_iconst (pc := 107) (v := 1) hC dX9_rests_107 ic1 ?_
              refine aw_iload (pc := 108) hC dX9_rests_108 rfl ?_
              refine aw_ishl (pc := 110) hC dX9_rests_110 ?_
              refine aw_ior (pc := 111) hC dX9_rests_111 ?_
              refine aw_istore (pc := 112) hC dX9_rests_112 rfl (by decide) ?_
              refine aw_iinc (pc := 114) (v := x6 + 1) hC dX9_rests_114 rfl (congrArg (HAdd.hAdd _) ic1) rfl (by decide) ?_
              refine aw_goto (pc := 117) (tgt := 55) hC dX9_rests_117 (by decide) ?_
              exact aw_drop [6, 7] (ih (x5 ||| (jshl 1 x6)) (x6 + 1))
    exact aw_drop [0, 1] (hL55 4096 0 0)
theorem dX9_shiftsThatFit_0 : decode cX9_shiftsThatFit 0 = .ok (.iconst 0, 1) := by decide +kernel
theorem dX9_shiftsThatFit_1 : decode cX9_shiftsThatFit 1 = .ok (.istore_n 1, 1) := by decide +kernel
theorem dX9_shiftsThatFit_2 : decode cX9_shiftsThatFit 2 = .ok (.iconst 0, 1) := by decide +kernel
theorem dX9_shiftsThatFit_3 : decode cX9_shiftsThatFit 3 = .ok (.istore_n 2, 1) := by decide +kernel
theorem dX9_shiftsThatFit_4 : decode cX9_shiftsThatFit 4 = .ok (.iload_n 2, 1) := by decide +kernel
theorem dX9_shiftsThatFit_5 : decode cX9_shiftsThatFit 5 = .ok (.bipush 7, 2) := by decide +kernel
theorem dX9_shiftsThatFit_7 : decode cX9_shiftsThatFit 7 = .ok (.if_icmp .ge 102, 3) := by decide +kernel
theorem dX9_shiftsThatFit_10 : decode cX9_shiftsThatFit 10 = .ok (.iconst 1, 1) := by decide +kernel
theorem dX9_shiftsThatFit_11 : decode cX9_shiftsThatFit 11 = .ok (.istore_n 3, 1) := by decide +kernel
theorem dX9_shiftsThatFit_12 : decode cX9_shiftsThatFit 12 = .ok (.iconst 0, 1) := by decide +kernel
theorem dX9_shiftsThatFit_13 : decode cX9_shiftsThatFit 13 = .ok (.istore 4, 2) := by decide +kernel
theorem dX9_shiftsThatFit_15 : decode cX9_shiftsThatFit 15 = .ok (.iload 4, 2) := by decide +kernel
theorem dX9_shiftsThatFit_17 : decode cX9_shiftsThatFit 17 = .ok (.iconst 1, 1) := by decide +kernel
theorem dX9_shiftsThatFit_18 : decode cX9_shiftsThatFit 18 = .ok (.iadd, 1) := by decide +kernel
theorem dX9_shiftsThatFit_19 : decode cX9_shiftsThatFit 19 = .ok (.aload_n 0, 1) := by decide +kernel
theorem dX9_shiftsThatFit_20 : decode cX9_shiftsThatFit 20 = .ok (.getfield 10, 3) := by decide +kernel
theorem dX9_shiftsThatFit_23 : decode cX9_shiftsThatFit 23 = .ok (.getfield 71, 3) := by decide +kernel
theorem dX9_shiftsThatFit_26 : decode cX9_shiftsThatFit 26 = .ok (.if_icmp .ge 70, 3) := by decide +kernel
theorem dX9_shiftsThatFit_29 : decode cX9_shiftsThatFit 29 = .ok (.aload_n 0, 1) := by decide +kernel
theorem dX9_shiftsThatFit_30 : decode cX9_shiftsThatFit 30 = .ok (.getfield 10, 3) := by decide +kernel
theorem dX9_shiftsThatFit_33 : decode cX9_shiftsThatFit 33 = .ok (.iload 4, 2) := by decide +kernel
theorem dX9_shiftsThatFit_35 : decode cX9_shiftsThatFit 35 = .ok (.invokevirtual 366, 3) := by decide +kernel
theorem dX9_shiftsThatFit_38 : decode cX9_shiftsThatFit 38 = .ok (.iload_n 2, 1) := by decide +kernel
theorem dX9_shiftsThatFit_39 : decode cX9_shiftsThatFit 39 = .ok (.iadd, 1) := by decide +kernel
theorem dX9_shiftsThatFit_40 : decode cX9_shiftsThatFit 40 = .ok (.bipush 7, 2) := by decide +kernel
theorem dX9_shiftsThatFit_42 : decode cX9_shiftsThatFit 42 = .ok (.irem, 1) := by decide +kernel
theorem dX9_shiftsThatFit_43 : decode cX9_shiftsThatFit 43 = .ok (.bipush 6, 2) := by decide +kernel
theorem dX9_shiftsThatFit_45 : decode cX9_shiftsThatFit 45 = .ok (.if_icmp .ne 7, 3) := by decide +kernel
theorem dX9_shiftsThatFit_48 : decode cX9_shiftsThatFit 48 = .ok (.iconst 1, 1) := by decide +kernel
theorem dX9_shiftsThatFit_49 : decode cX9_shiftsThatFit 49 = .ok (.goto 4, 3) := by decide +kernel
theorem dX9_shiftsThatFit_52 : decode cX9_shiftsThatFit 52 = .ok (.iconst 0, 1) := by decide +kernel
theorem dX9_shiftsThatFit_53 : decode cX9_shiftsThatFit 53 = .ok (.istore 5, 2) := by decide +kernel
theorem dX9_shiftsThatFit_55 : decode cX9_shiftsThatFit 55 = .ok (.iload_n 3, 1) := by decide +kernel
theorem dX9_shiftsThatFit_56 : decode cX9_shiftsThatFit 56 = .ok (.ifCond .eq 32, 3) := by decide +kernel
theorem dX9_shiftsThatFit_59 : decode cX9_shiftsThatFit 59 = .ok (.iload 5, 2) := by decide +kernel
theorem dX9_shiftsThatFit_61 : decode cX9_shiftsThatFit 61 = .ok (.aload_n 0, 1) := by decide +kernel
theorem dX9_shiftsThatFit_62 : decode cX9_shiftsThatFit 62 = .ok (.getfield 10, 3) := by decide +kernel
theorem dX9_shiftsThatFit_65 : decode cX9_shiftsThatFit 65 = .ok (.iload 4, 2) := by decide +kernel
theorem dX9_shiftsThatFit_67 : decode cX9_shiftsThatFit 67 = .ok (.iconst 1, 1) := by decide +kernel
theorem dX9_shiftsThatFit_68 : decode cX9_shiftsThatFit 68 = .ok (.iadd, 1) := by decide +kernel
theorem dX9_shiftsThatFit_69 : decode cX9_shiftsThatFit 69 = .ok (.invokevirtual 366, 3) := by decide +kernel
theorem dX9_shiftsThatFit_72 : decode cX9_shiftsThatFit 72 = .ok (.iconst 1, 1) := by decide +kernel
theorem dX9_shiftsThatFit_73 : decode cX9_shiftsThatFit 73 = .ok (.if_icmp .ne 7, 3) := by decide +kernel
theorem dX9_shiftsThatFit_76 : decode cX9_shiftsThatFit 76 = .ok (.iconst 1, 1) := by decide +kernel
theorem dX9_shiftsThatFit_77 : decode cX9_shiftsThatFit 77 = .ok (.goto 4, 3) := by decide +kernel
theorem dX9_shiftsThatFit_80 : decode cX9_shiftsThatFit 80 = .ok (.iconst 0, 1) := by decide +kernel
theorem dX9_shiftsThatFit_81 : decode cX9_shiftsThatFit 81 = .ok (.if_icmp .ne 7, 3) := by decide +kernel
theorem dX9_shiftsThatFit_84 : decode cX9_shiftsThatFit 84 = .ok (.iconst 1, 1) := by decide +kernel
theorem dX9_shiftsThatFit_85 : decode cX9_shiftsThatFit 85 = .ok (.goto 4, 3) := by decide +kernel
theorem dX9_shiftsThatFit_88 : decode cX9_shiftsThatFit 88 = .ok (.iconst 0, 1) := by decide +kernel
theorem dX9_shiftsThatFit_89 : decode cX9_shiftsThatFit 89 = .ok (.istore_n 3, 1) := by decide +kernel
theorem dX9_shiftsThatFit_90 : decode cX9_shiftsThatFit 90 = .ok (.iinc 4 2, 3) := by decide +kernel
theorem dX9_shiftsThatFit_93 : decode cX9_shiftsThatFit 93 = .ok (.goto (-78), 3) := by decide +kernel
theorem dX9_shiftsThatFit_96 : decode cX9_shiftsThatFit 96 = .ok (.iload_n 1, 1) := by decide +kernel
theorem dX9_shiftsThatFit_97 : decode cX9_shiftsThatFit 97 = .ok (.iload_n 2, 1) := by decide +kernel
theorem dX9_shiftsThatFit_98 : decode cX9_shiftsThatFit 98 = .ok (.iload_n 3, 1) := by decide +kernel
theorem dX9_shiftsThatFit_99 : decode cX9_shiftsThatFit 99 = .ok (.invokestatic 229, 3) := by decide +kernel
theorem dX9_shiftsThatFit_102 : decode cX9_shiftsThatFit 102 = .ok (.istore_n 1, 1) := by decide +kernel
theorem dX9_shiftsThatFit_103 : decode cX9_shiftsThatFit 103 = .ok (.iinc 2 1, 3) := by decide +kernel
theorem dX9_shiftsThatFit_106 : decode cX9_shiftsThatFit 106 = .ok (.goto (-102), 3) := by decide +kernel
theorem dX9_shiftsThatFit_109 : decode cX9_shiftsThatFit 109 = .ok (.iload_n 1, 1) := by decide +kernel
theorem dX9_shiftsThatFit_110 : decode cX9_shiftsThatFit 110 = .ok (.ireturn, 1) := by decide +kernel
def lp_X9_shiftsThatFit_15 (μ : Mem) (x2 : Int32) (k96 : Int32 → Option (Int32)) : Nat → Int32 → Int32 → Option (Int32)
  | 0, _, _ => none
  | n + 1, x4, x5 => if (μ 0 1 1) ≤ (x5 + 1) then (k96 x4) else ((f_X7_at μ x5).bind fun (q6 : Int32) => nm (fun (x7 : Int32) => if x4 = 0 then (lp_X9_shiftsThatFit_15 μ x2 k96 n 0 (x5 + 2)) else ((f_X7_at μ (x5 + 1)).bind fun (q8 : Int32) => nm (fun (x9 : Int32) => if x7 = x9 then (lp_X9_shiftsThatFit_15 μ x2 k96 n 1 (x5 + 2)) else (lp_X9_shiftsThatFit_15 μ x2 k96 n 0 (x5 + 2))) fun (J81 : Int32 → Option (Int32)) => if q8 = 1 then (J81 1) else (J81 0))) fun (J53 : Int32 → Option (Int32)) => if (jrem (q6 + x2) 7) = 6 then (J53 1) else (J53 0))
def lp_X9_shiftsThatFit_4 (μ : Mem) : Nat → Int32 → Int32 → Option (Int32)
  | 0, _, _ => none
  | n + 1, x1, x2 => if 7 ≤ x2 then (some x1) else (lp_X9_shiftsThatFit_15 μ x2 (fun (x3 : Int32) => (f_X9_withMember x1 x2 x3).bind fun (q10 : Int32) => lp_X9_shiftsThatFit_4 μ n q10 (x2 + 1)) 4096 1 0)
def f_X9_shiftsThatFit (μ : Mem) : Option (Int32) := lp_X9_shiftsThatFit_4 μ 4096 0 0
set_option maxHeartbeats 4000000 in
set_option maxRecDepth 100000 in
theorem c_X9_shiftsThatFit (G : GG) (l : Launch) (μ : Mem) : CR G l yX9_shiftsThatFit (.code yX9_shiftsThatFit cX9_shiftsThatFit 6 (some .int)) 2 [.ref (gad G 0 0)] μ (f_X9_shiftsThatFit μ) := by
  refine CR.of (own := "SaturdayKeep") (L0 := [some (.ref (gad G 0 0)), none, none, none, none, none]) rfl rfl rfl (Nat.le_of_ble_eq_true rfl) (fun C hl hC => ?_)
  subst hl
  delta f_X9_shiftsThatFit
  refine aw_iconst (pc := 0) (v := 0) hC dX9_shiftsThatFit_0 ic0 ?_
  refine aw_istore_n (pc := 1) (i := 1) hC dX9_shiftsThatFit_1 rfl rfl (by decide) ?_
  refine aw_iconst (pc := 2) (v := 0) hC dX9_shiftsThatFit_2 ic0 ?_
  refine aw_istore_n (pc := 3) (i := 2) hC dX9_shiftsThatFit_3 rfl rfl (by decide) ?_
  have hL4 : ∀ (n : Nat) (x1 : Int32) (x2 : Int32), AW G C (qR G C 0 0 μ) 0 0 6 μ 4 [some (.ref (gad G 0 0)), some (.int x1), some (.int x2), none, none, none] [] (lp_X9_shiftsThatFit_4 μ n x1 x2) := by
    intro n
    induction n with
    | zero => intro x1 x2; exact aw_none
    | succ n ih =>
      intro x1 x2
      rw [lp_X9_shiftsThatFit_4]
      refine aw_iload_n (pc := 4) (i := 2) hC dX9_shiftsThatFit_4 rfl rfl ?_
      refine aw_bipush (pc := 5) (v := 7) hC dX9_shiftsThatFit_5 bc7 ?_
      refine aw_icmp_ge (pc := 7) (tgt := 109) hC dX9_shiftsThatFit_7 (by decide) (fun _ => ?_) (fun _ => ?_)
      · skip
        refine aw_iload_n (pc := 109) (i := 1) hC dX9_shiftsThatFit_109 rfl rfl ?_
        exact aw_iretR hC dX9_shiftsThatFit_110
      · skip
        refine aw_iconst (pc := 10) (v := 1) hC dX9_shiftsThatFit_10 ic1 ?_
        refine aw_istore_n (pc := 11) (i := 3) hC dX9_shiftsThatFit_11 rfl rfl (by decide) ?_
        refine aw_iconst (pc := 12) (v := 0) hC dX9_shiftsThatFit_12 ic0 ?_
        refine aw_istore (pc := 13) hC dX9_shiftsThatFit_13 rfl (by decide) ?_
        have hL15 : ∀ (k96 : Int32 → Option (Int32)) (hk96 : ∀ (x3 : Int32), AW G C (qR G C 0 0 μ) 0 0 6 μ 96 [some (.ref (gad G 0 0)), some (.int x1), some (.int x2), some (.int x3), none, none] [] (k96 x3)) (n : Nat) (x4 : Int32) (x5 : Int32), AW G C (qR G C 0 0 μ) 0 0 6 μ 15 [some (.ref (gad G 0 0)), some (.int x1), some (.int x2), some (.int x4), some (.int x5), none] [] (lp_X9_shiftsThatFit_15 μ x2 k96 n x4 x5) := by
          intro k96 hk96 n
          induction n with
          | zero => intro x4 x5; exact aw_none
          | succ n ih =>
            intro x4 x5
            rw [lp_X9_shiftsThatFit_15]
            refine aw_iload (pc := 15) hC dX9_shiftsThatFit_15 rfl ?_
            refine aw_iconst (pc := 17) (v := 1) hC dX9_shiftsThatFit_17 ic1 ?_
            refine aw_iadd (pc := 18) hC dX9_shiftsThatFit_18 ?_
            refine aw_aload_n (pc := 19) (i := 0) hC dX9_shiftsThatFit_19 rfl rfl ?_
            refine aw_get (pc := 20) hC inX9 (v0 (j := 0) (by decide)) rfl rfl 0 (by decide) kw276 rfl rfl dX9_shiftsThatFit_20 ?_
            refine aw_get (pc := 23) hC inX7 (v0 (j := 1) (by decide)) rfl rfl 1 (by decide) kw42 rfl rfl dX9_shiftsThatFit_23 ?_
            refine aw_icmp_ge (pc := 26) (tgt := 96) hC dX9_shiftsThatFit_26 (by decide) (fun _ => ?_) (fun _ => ?_)
            · skip
              exact aw_drop [4] (hk96 x4)
            · skip
              refine aw_aload_n (pc := 29) (i := 0) hC dX9_shiftsThatFit_29 rfl rfl ?_
              refine aw_get (pc := 30) hC inX9 (v0 (j := 0) (by decide)) rfl rfl 0 (by decide) kw276 rfl rfl dX9_shiftsThatFit_30 ?_
              refine aw_iload (pc := 33) hC dX9_shiftsThatFit_33 rfl ?_
              refine aw_callVR (pc := 35) (As := [.int x5]) hC mb_X7_at kw1181 (by decide) (c_X7_at G C.2.1   μ x5) (v0 (j := 1) (by decide)) rfl rfl rfl (Nat.le_of_ble_eq_true rfl) dX9_shiftsThatFit_35 (fun q6 => ?_)
              refine aw_iload_n (pc := 38) (i := 2) hC dX9_shiftsThatFit_38 rfl rfl ?_
              refine aw_iadd (pc := 39) hC dX9_shiftsThatFit_39 ?_
              refine aw_bipush (pc := 40) (v := 7) hC dX9_shiftsThatFit_40 bc7 ?_
              refine aw_irem (pc := 42) hC dX9_shiftsThatFit_42 (by decide) ?_
              refine aw_bipush (pc := 43) (v := 6) hC dX9_shiftsThatFit_43 bc6 ?_
              refine aw_nmJ (fun (J53 : Int32 → Option (Int32)) => ∀ (x7 : Int32), AW G C (qR G C 0 0 μ) 0 0 6 μ 53 [some (.ref (gad G 0 0)), some (.int x1), some (.int x2), some (.int x4), some (.int x5), none] [.int x7] (J53 x7)) (fun x7 => ?_) (fun J53 hJ53 => ?_)
              · skip
                refine aw_istore (pc := 53) hC dX9_shiftsThatFit_53 rfl (by decide) ?_
                refine aw_iload_n (pc := 55) (i := 3) hC dX9_shiftsThatFit_55 rfl rfl ?_
                refine aw_if_eq (pc := 56) (tgt := 88) hC dX9_shiftsThatFit_56 (by decide) (fun _ => ?_) (fun _ => ?_)
                · skip
                  refine aw_iconst (pc := 88) (v := 0) hC dX9_shiftsThatFit_88 ic0 ?_
                  refine aw_istore_n (pc := 89) (i := 3) hC dX9_shiftsThatFit_89 rfl rfl (by decide) ?_
                  refine aw_iinc (pc := 90) (v := x5 + 2) hC dX9_shiftsThatFit_90 rfl (congrArg (HAdd.hAdd _) ic2) rfl (by decide) ?_
                  refine aw_goto (pc := 93) (tgt := 15) hC dX9_shiftsThatFit_93 (by decide) ?_
                  exact aw_drop [5] (ih 0 (x5 + 2))
                · skip
                  refine aw_iload (pc := 59) hC dX9_shiftsThatFit_59 rfl ?_
                  refine aw_aload_n (pc := 61) (i := 0) hC dX9_shiftsThatFit_61 rfl rfl ?_
                  refine aw_get (pc := 62) hC inX9 (v0 (j := 0) (by decide)) rfl rfl 0 (by decide) kw276 rfl rfl dX9_shiftsThatFit_62 ?_
                  refine aw_iload (pc := 65) hC dX9_shiftsThatFit_65 rfl ?_
                  refine aw_iconst (pc := 67) (v := 1) hC dX9_shiftsThatFit_67 ic1 ?_
                  refine aw_iadd (pc := 68) hC dX9_shiftsThatFit_68 ?_
                  refine aw_callVR (pc := 69) (As := [.int (x5 + 1)]) hC mb_X7_at kw1181 (by decide) (c_X7_at G C.2.1   μ (x5 + 1)) (v0 (j := 1) (by decide)) rfl rfl rfl (Nat.le_of_ble_eq_true rfl) dX9_shiftsThatFit_69 (fun q8 => ?_)
                  refine aw_iconst (pc := 72) (v := 1) hC dX9_shiftsThatFit_72 ic1 ?_
                  refine aw_nmJ (fun (J81 : Int32 → Option (Int32)) => ∀ (x9 : Int32), AW G C (qR G C 0 0 μ) 0 0 6 μ 81 [some (.ref (gad G 0 0)), some (.int x1), some (.int x2), none, some (.int x5), none] [.int x9, .int x7] (J81 x9)) (fun x9 => ?_) (fun J81 hJ81 => ?_)
                  · skip
                    refine aw_icmp_ne (pc := 81) (tgt := 88) hC dX9_shiftsThatFit_81 (by decide) (fun _ => ?_) (fun _ => ?_)
                    · skip
                      refine aw_iconst (pc := 84) (v := 1) hC dX9_shiftsThatFit_84 ic1 ?_
                      refine aw_goto (pc := 85) (tgt := 89) hC dX9_shiftsThatFit_85 (by decide) ?_
                      refine aw_istore_n (pc := 89) (i := 3) hC dX9_shiftsThatFit_89 rfl rfl (by decide) ?_
                      refine aw_iinc (pc := 90) (v := x5 + 2) hC dX9_shiftsThatFit_90 rfl (congrArg (HAdd.hAdd _) ic2) rfl (by decide) ?_
                      refine aw_goto (pc := 93) (tgt := 15) hC dX9_shiftsThatFit_93 (by decide) ?_
                      exact ih 1 (x5 + 2)
                    · skip
                      refine aw_iconst (pc := 88) (v := 0) hC dX9_shiftsThatFit_88 ic0 ?_
                      refine aw_istore_n (pc := 89) (i := 3) hC dX9_shiftsThatFit_89 rfl rfl (by decide) ?_
                      refine aw_iinc (pc := 90) (v := x5 + 2) hC dX9_shiftsThatFit_90 rfl (congrArg (HAdd.hAdd _) ic2) rfl (by decide) ?_
                      refine aw_goto (pc := 93) (tgt := 15) hC dX9_shiftsThatFit_93 (by decide) ?_
                      exact ih 0 (x5 + 2)
                  · skip
                    refine aw_icmp_ne (pc := 73) (tgt := 80) hC dX9_shiftsThatFit_73 (by decide) (fun _ => ?_) (fun _ => ?_)
                    · skip
                      refine aw_iconst (pc := 76) (v := 1) hC dX9_shiftsThatFit_76 ic1 ?_
                      refine aw_goto (pc := 77) (tgt := 81) hC dX9_shiftsThatFit_77 (by decide) ?_
                      exact aw_drop [3, 5] (hJ81 1)
                    · skip
                      refine aw_iconst (pc := 80) (v := 0) hC dX9_shiftsThatFit_80 ic0 ?_
                      exact aw_drop [3, 5] (hJ81 0)
              · skip
                refine aw_icmp_ne (pc := 45) (tgt := 52) hC dX9_shiftsThatFit_45 (by decide) (fun _ => ?_) (fun _ => ?_)
                · skip
                  refine aw_iconst (pc := 48) (v := 1) hC dX9_shiftsThatFit_48 ic1 ?_
                  refine aw_goto (pc := 49) (tgt := 53) hC dX9_shiftsThatFit_49 (by decide) ?_
                  exact hJ53 1
                · skip
                  refine aw_iconst (pc := 52) (v := 0) hC dX9_shiftsThatFit_52 ic0 ?_
                  exact hJ53 0
        refine hL15 (fun (x3 : Int32) => (f_X9_withMember x1 x2 x3).bind fun (q10 : Int32) => lp_X9_shiftsThatFit_4 μ n q10 (x2 + 1)) (fun x3 => ?_) 4096 1 0
        · skip
          refine aw_iload_n (pc := 96) (i := 1) hC dX9_shiftsThatFit_96 rfl rfl ?_
          refine aw_iload_n (pc := 97) (i := 2) hC dX9_shiftsThatFit_97 rfl rfl ?_
          refine aw_iload_n (pc := 98) (i := 3) hC dX9_shiftsThatFit_98 rfl rfl ?_
          refine aw_callSR (pc := 99) (As := [.int x1, .int x2, .int x3]) hC ms_X9_withMember kw515 (by decide) (c_X9_withMember G C.2.1   μ x1 x2 x3) rfl (Nat.le_of_ble_eq_true rfl) dX9_shiftsThatFit_99 (fun q10 => ?_)
          refine aw_istore_n (pc := 102) (i := 1) hC dX9_shiftsThatFit_102 rfl rfl (by decide) ?_
          refine aw_iinc (pc := 103) (v := x2 + 1) hC dX9_shiftsThatFit_103 rfl (congrArg (HAdd.hAdd _) ic1) rfl (by decide) ?_
          refine aw_goto (pc := 106) (tgt := 4) hC dX9_shiftsThatFit_106 (by decide) ?_
          exact aw_drop [3] (ih q10 (x2 + 1))
  exact hL4 4096 0 0
theorem dX9_shifts_0 : decode cX9_shifts 0 = .ok (.aload_n 0, 1) := by decide +kernel
theorem dX9_shifts_1 : decode cX9_shifts 1 = .ok (.getfield 10, 3) := by decide +kernel
theorem dX9_shifts_4 : decode cX9_shifts 4 = .ok (.bipush 6, 2) := by decide +kernel
theorem dX9_shifts_6 : decode cX9_shifts 6 = .ok (.invokevirtual 358, 3) := by decide +kernel
theorem dX9_shifts_9 : decode cX9_shifts 9 = .ok (.istore_n 1, 1) := by decide +kernel
theorem dX9_shifts_10 : decode cX9_shifts 10 = .ok (.aload_n 0, 1) := by decide +kernel
theorem dX9_shifts_11 : decode cX9_shifts 11 = .ok (.invokevirtual 361, 3) := by decide +kernel
theorem dX9_shifts_14 : decode cX9_shifts 14 = .ok (.istore_n 2, 1) := by decide +kernel
theorem dX9_shifts_15 : decode cX9_shifts 15 = .ok (.aload_n 0, 1) := by decide +kernel
theorem dX9_shifts_16 : decode cX9_shifts 16 = .ok (.getfield 10, 3) := by decide +kernel
theorem dX9_shifts_19 : decode cX9_shifts 19 = .ok (.iconst 0, 1) := by decide +kernel
theorem dX9_shifts_20 : decode cX9_shifts 20 = .ok (.putfield 71, 3) := by decide +kernel
theorem dX9_shifts_23 : decode cX9_shifts 23 = .ok (.iload_n 1, 1) := by decide +kernel
theorem dX9_shifts_24 : decode cX9_shifts 24 = .ok (.ifCond .ne 14, 3) := by decide +kernel
theorem dX9_shifts_27 : decode cX9_shifts 27 = .ok (.new 93, 3) := by decide +kernel
theorem dX9_shifts_30 : decode cX9_shifts 30 = .ok (.dup, 1) := by decide +kernel
theorem dX9_shifts_31 : decode cX9_shifts 31 = .ok (.ldc_w 364, 3) := by decide +kernel
theorem dX9_shifts_34 : decode cX9_shifts 34 = .ok (.invokespecial 97, 3) := by decide +kernel
theorem dX9_shifts_37 : decode cX9_shifts 37 = .ok (.athrow, 1) := by decide +kernel
theorem dX9_shifts_38 : decode cX9_shifts 38 = .ok (.iload_n 2, 1) := by decide +kernel
theorem dX9_shifts_39 : decode cX9_shifts 39 = .ok (.ireturn, 1) := by decide +kernel
def f_X9_shifts (μ : Mem) : Option (Nat × Int32 × Mem) := (f_X7_isTold μ 6).bind fun (q1 : Int32) => (f_X9_shiftsThatFit μ).bind fun (q2 : Int32) => nm (upm μ 0 1 1 0) fun (μ3 : Mem) => if q1 = 0 then (some (1, 0, μ3)) else (some (0, q2, μ3))
set_option maxHeartbeats 4000000 in
set_option maxRecDepth 100000 in
theorem c_X9_shifts (G : GG) (l : Launch) (hl0 : l.stackTraces = false) (μ : Mem) : CXT G l yX9_shifts (.code yX9_shifts cX9_shifts 3 (some .int)) 5 [.ref (gad G 0 0)] μ (f_X9_shifts μ) := by
  refine CXT.of (own := "SaturdayKeep") (L0 := [some (.ref (gad G 0 0)), none, none]) hl0 rfl rfl rfl (Nat.le_of_ble_eq_true rfl) (fun C hl1 hl hout hcs hC => ?_)
  subst hl1
  delta f_X9_shifts
  refine aw_aload_n (pc := 0) (i := 0) hC dX9_shifts_0 rfl rfl ?_
  refine aw_get (pc := 1) hC inX9 (v0 (j := 0) (by decide)) rfl rfl 0 (by decide) kw276 rfl rfl dX9_shifts_1 ?_
  refine aw_bipush (pc := 4) (v := 6) hC dX9_shifts_4 bc6 ?_
  refine aw_callVR (pc := 6) (As := [.int 6]) hC mb_X7_isTold kw1172 (by decide) (c_X7_isTold G C.2.1   μ 6) (v0 (j := 1) (by decide)) rfl rfl rfl (Nat.le_of_ble_eq_true rfl) dX9_shifts_6 (fun q1 => ?_)
  refine aw_istore_n (pc := 9) (i := 1) hC dX9_shifts_9 rfl rfl (by decide) ?_
  refine aw_aload_n (pc := 10) (i := 0) hC dX9_shifts_10 rfl rfl ?_
  refine aw_callVR (pc := 11) (As := []) hC mb_X9_shiftsThatFit kw1177 (by decide) (c_X9_shiftsThatFit G C.2.1   μ ) (v0 (j := 0) (by decide)) rfl rfl rfl (Nat.le_of_ble_eq_true rfl) dX9_shifts_11 (fun q2 => ?_)
  refine aw_istore_n (pc := 14) (i := 2) hC dX9_shifts_14 rfl rfl (by decide) ?_
  refine aw_aload_n (pc := 15) (i := 0) hC dX9_shifts_15 rfl rfl ?_
  refine aw_get (pc := 16) hC inX9 (v0 (j := 0) (by decide)) rfl rfl 0 (by decide) kw276 rfl rfl dX9_shifts_16 ?_
  refine aw_iconst (pc := 19) (v := 0) hC dX9_shifts_19 ic0 ?_
  refine aw_putIN (pc := 20) hC inX7 (v0 (j := 1) (by decide)) rfl rfl 1 (by decide) kw42 rfl tyX7 tyX7_ok nmX7 rfl rfl (Nat.le_of_ble_eq_true rfl) rfl dX9_shifts_20 (fun μ3 => ?_)
  refine aw_iload_n (pc := 23) (i := 1) hC dX9_shifts_23 rfl rfl ?_
  refine aw_if_ne (pc := 24) (tgt := 38) hC dX9_shifts_24 (by decide) (fun _ => ?_) (fun _ => ?_)
  · skip
    exact aw_throwW (k := 1) (i := 42) hC hl hout hcs rfl rfl kw745 kw21 thr1_97 (by decide) (by decide) (Nat.le_of_ble_eq_true rfl) dX9_shifts_27 dX9_shifts_30 dX9_shifts_31 dX9_shifts_34 dX9_shifts_37
  · skip
    refine aw_iload_n (pc := 38) (i := 2) hC dX9_shifts_38 rfl rfl ?_
    exact aw_iretX hC dX9_shifts_39
theorem dX9_ask_0 : decode cX9_ask 0 = .ok (.aload_n 0, 1) := by decide +kernel
theorem dX9_ask_1 : decode cX9_ask 1 = .ok (.getfield 10, 3) := by decide +kernel
theorem dX9_ask_4 : decode cX9_ask 4 = .ok (.bipush 6, 2) := by decide +kernel
theorem dX9_ask_6 : decode cX9_ask 6 = .ok (.invokevirtual 358, 3) := by decide +kernel
theorem dX9_ask_9 : decode cX9_ask 9 = .ok (.istore_n 1, 1) := by decide +kernel
theorem dX9_ask_10 : decode cX9_ask 10 = .ok (.aload_n 0, 1) := by decide +kernel
theorem dX9_ask_11 : decode cX9_ask 11 = .ok (.invokevirtual 361, 3) := by decide +kernel
theorem dX9_ask_14 : decode cX9_ask 14 = .ok (.istore_n 2, 1) := by decide +kernel
theorem dX9_ask_15 : decode cX9_ask 15 = .ok (.aload_n 0, 1) := by decide +kernel
theorem dX9_ask_16 : decode cX9_ask 16 = .ok (.getfield 10, 3) := by decide +kernel
theorem dX9_ask_19 : decode cX9_ask 19 = .ok (.iconst 0, 1) := by decide +kernel
theorem dX9_ask_20 : decode cX9_ask 20 = .ok (.putfield 71, 3) := by decide +kernel
theorem dX9_ask_23 : decode cX9_ask 23 = .ok (.iload_n 1, 1) := by decide +kernel
theorem dX9_ask_24 : decode cX9_ask 24 = .ok (.ifCond .ne 14, 3) := by decide +kernel
theorem dX9_ask_27 : decode cX9_ask 27 = .ok (.new 93, 3) := by decide +kernel
theorem dX9_ask_30 : decode cX9_ask 30 = .ok (.dup, 1) := by decide +kernel
theorem dX9_ask_31 : decode cX9_ask 31 = .ok (.ldc_w 364, 3) := by decide +kernel
theorem dX9_ask_34 : decode cX9_ask 34 = .ok (.invokespecial 97, 3) := by decide +kernel
theorem dX9_ask_37 : decode cX9_ask 37 = .ok (.athrow, 1) := by decide +kernel
theorem dX9_ask_38 : decode cX9_ask 38 = .ok (.iload_n 2, 1) := by decide +kernel
theorem dX9_ask_39 : decode cX9_ask 39 = .ok (.invokestatic 317, 3) := by decide +kernel
theorem dX9_ask_42 : decode cX9_ask 42 = .ok (.istore_n 3, 1) := by decide +kernel
theorem dX9_ask_43 : decode cX9_ask 43 = .ok (.iconst (-1), 1) := by decide +kernel
theorem dX9_ask_44 : decode cX9_ask 44 = .ok (.istore 4, 2) := by decide +kernel
theorem dX9_ask_46 : decode cX9_ask 46 = .ok (.iload_n 3, 1) := by decide +kernel
theorem dX9_ask_47 : decode cX9_ask 47 = .ok (.iconst 1, 1) := by decide +kernel
theorem dX9_ask_48 : decode cX9_ask 48 = .ok (.iadd, 1) := by decide +kernel
theorem dX9_ask_49 : decode cX9_ask 49 = .ok (.istore 5, 2) := by decide +kernel
theorem dX9_ask_51 : decode cX9_ask 51 = .ok (.iconst 0, 1) := by decide +kernel
theorem dX9_ask_52 : decode cX9_ask 52 = .ok (.istore 6, 2) := by decide +kernel
theorem dX9_ask_54 : decode cX9_ask 54 = .ok (.iload 6, 2) := by decide +kernel
theorem dX9_ask_56 : decode cX9_ask 56 = .ok (.bipush 7, 2) := by decide +kernel
theorem dX9_ask_58 : decode cX9_ask 58 = .ok (.if_icmp .ge 59, 3) := by decide +kernel
theorem dX9_ask_61 : decode cX9_ask 61 = .ok (.iload_n 3, 1) := by decide +kernel
theorem dX9_ask_62 : decode cX9_ask 62 = .ok (.iconst 1, 1) := by decide +kernel
theorem dX9_ask_63 : decode cX9_ask 63 = .ok (.if_icmp .le 54, 3) := by decide +kernel
theorem dX9_ask_66 : decode cX9_ask 66 = .ok (.iload_n 2, 1) := by decide +kernel
theorem dX9_ask_67 : decode cX9_ask 67 = .ok (.bipush 6, 2) := by decide +kernel
theorem dX9_ask_69 : decode cX9_ask 69 = .ok (.iload 6, 2) := by decide +kernel
theorem dX9_ask_71 : decode cX9_ask 71 = .ok (.isub, 1) := by decide +kernel
theorem dX9_ask_72 : decode cX9_ask 72 = .ok (.invokestatic 158, 3) := by decide +kernel
theorem dX9_ask_75 : decode cX9_ask 75 = .ok (.ifCond .eq 7, 3) := by decide +kernel
theorem dX9_ask_78 : decode cX9_ask 78 = .ok (.iconst 1, 1) := by decide +kernel
theorem dX9_ask_79 : decode cX9_ask 79 = .ok (.goto 4, 3) := by decide +kernel
theorem dX9_ask_82 : decode cX9_ask 82 = .ok (.iconst 0, 1) := by decide +kernel
theorem dX9_ask_83 : decode cX9_ask 83 = .ok (.istore 7, 2) := by decide +kernel
theorem dX9_ask_85 : decode cX9_ask 85 = .ok (.iload 7, 2) := by decide +kernel
theorem dX9_ask_87 : decode cX9_ask 87 = .ok (.iload_n 3, 1) := by decide +kernel
theorem dX9_ask_88 : decode cX9_ask 88 = .ok (.iload 7, 2) := by decide +kernel
theorem dX9_ask_90 : decode cX9_ask 90 = .ok (.isub, 1) := by decide +kernel
theorem dX9_ask_91 : decode cX9_ask 91 = .ok (.invokestatic 300, 3) := by decide +kernel
theorem dX9_ask_94 : decode cX9_ask 94 = .ok (.istore 8, 2) := by decide +kernel
theorem dX9_ask_96 : decode cX9_ask 96 = .ok (.iload 8, 2) := by decide +kernel
theorem dX9_ask_98 : decode cX9_ask 98 = .ok (.iload 5, 2) := by decide +kernel
theorem dX9_ask_100 : decode cX9_ask 100 = .ok (.if_icmp .ge 11, 3) := by decide +kernel
theorem dX9_ask_103 : decode cX9_ask 103 = .ok (.iload 8, 2) := by decide +kernel
theorem dX9_ask_105 : decode cX9_ask 105 = .ok (.istore 5, 2) := by decide +kernel
theorem dX9_ask_107 : decode cX9_ask 107 = .ok (.iload 6, 2) := by decide +kernel
theorem dX9_ask_109 : decode cX9_ask 109 = .ok (.istore 4, 2) := by decide +kernel
theorem dX9_ask_111 : decode cX9_ask 111 = .ok (.iinc 6 1, 3) := by decide +kernel
theorem dX9_ask_114 : decode cX9_ask 114 = .ok (.goto (-60), 3) := by decide +kernel
theorem dX9_ask_117 : decode cX9_ask 117 = .ok (.iload 4, 2) := by decide +kernel
theorem dX9_ask_119 : decode cX9_ask 119 = .ok (.ireturn, 1) := by decide +kernel
def lp_X9_ask_54 (q2 : Int32) (μ3 : Mem) (q4 : Int32) : Nat → Int32 → Int32 → Int32 → Option (Nat × Int32 × Mem)
  | 0, _, _, _ => none
  | n + 1, x5, x6, x7 => if 7 ≤ x7 then (some (0, x5, μ3)) else (if q4 ≤ 1 then (some (0, x5, μ3)) else ((f_X9_holds q2 (6 - x7)).bind fun (q8 : Int32) => nm (fun (x9 : Int32) => if x6 ≤ (jmax x9 (q4 - x9)) then (lp_X9_ask_54 q2 μ3 q4 n x5 x6 (x7 + 1)) else (lp_X9_ask_54 q2 μ3 q4 n x7 (jmax x9 (q4 - x9)) (x7 + 1))) fun (J83 : Int32 → Option (Nat × Int32 × Mem)) => if q8 = 0 then (J83 0) else (J83 1)))
def f_X9_ask (μ : Mem) : Option (Nat × Int32 × Mem) := (f_X7_isTold μ 6).bind fun (q1 : Int32) => (f_X9_shiftsThatFit μ).bind fun (q2 : Int32) => nm (upm μ 0 1 1 0) fun (μ3 : Mem) => if q1 = 0 then (some (1, 0, μ3)) else ((f_J6_bitCount_0f7a4 q2).bind fun (q4 : Int32) => lp_X9_ask_54 q2 μ3 q4 4096 (-1) (q4 + 1) 0)
set_option maxHeartbeats 4000000 in
set_option maxRecDepth 100000 in
theorem c_X9_ask (G : GG) (l : Launch) (hl0 : l.stackTraces = false) (μ : Mem) : CXT G l yX9_ask (.code yX9_ask cX9_ask 9 (some .int)) 5 [.ref (gad G 0 0)] μ (f_X9_ask μ) := by
  refine CXT.of (own := "SaturdayKeep") (L0 := [some (.ref (gad G 0 0)), none, none, none, none, none, none, none, none]) hl0 rfl rfl rfl (Nat.le_of_ble_eq_true rfl) (fun C hl1 hl hout hcs hC => ?_)
  subst hl1
  delta f_X9_ask
  refine aw_aload_n (pc := 0) (i := 0) hC dX9_ask_0 rfl rfl ?_
  refine aw_get (pc := 1) hC inX9 (v0 (j := 0) (by decide)) rfl rfl 0 (by decide) kw276 rfl rfl dX9_ask_1 ?_
  refine aw_bipush (pc := 4) (v := 6) hC dX9_ask_4 bc6 ?_
  refine aw_callVR (pc := 6) (As := [.int 6]) hC mb_X7_isTold kw1172 (by decide) (c_X7_isTold G C.2.1   μ 6) (v0 (j := 1) (by decide)) rfl rfl rfl (Nat.le_of_ble_eq_true rfl) dX9_ask_6 (fun q1 => ?_)
  refine aw_istore_n (pc := 9) (i := 1) hC dX9_ask_9 rfl rfl (by decide) ?_
  refine aw_aload_n (pc := 10) (i := 0) hC dX9_ask_10 rfl rfl ?_
  refine aw_callVR (pc := 11) (As := []) hC mb_X9_shiftsThatFit kw1177 (by decide) (c_X9_shiftsThatFit G C.2.1   μ ) (v0 (j := 0) (by decide)) rfl rfl rfl (Nat.le_of_ble_eq_true rfl) dX9_ask_11 (fun q2 => ?_)
  refine aw_istore_n (pc := 14) (i := 2) hC dX9_ask_14 rfl rfl (by decide) ?_
  refine aw_aload_n (pc := 15) (i := 0) hC dX9_ask_15 rfl rfl ?_
  refine aw_get (pc := 16) hC inX9 (v0 (j := 0) (by decide)) rfl rfl 0 (by decide) kw276 rfl rfl dX9_ask_16 ?_
  refine aw_iconst (pc := 19) (v := 0) hC dX9_ask_19 ic0 ?_
  refine aw_putIN (pc := 20) hC inX7 (v0 (j := 1) (by decide)) rfl rfl 1 (by decide) kw42 rfl tyX7 tyX7_ok nmX7 rfl rfl (Nat.le_of_ble_eq_true rfl) rfl dX9_ask_20 (fun μ3 => ?_)
  refine aw_iload_n (pc := 23) (i := 1) hC dX9_ask_23 rfl rfl ?_
  refine aw_if_ne (pc := 24) (tgt := 38) hC dX9_ask_24 (by decide) (fun _ => ?_) (fun _ => ?_)
  · skip
    exact aw_throwW (k := 1) (i := 42) hC hl hout hcs rfl rfl kw745 kw21 thr1_97 (by decide) (by decide) (Nat.le_of_ble_eq_true rfl) dX9_ask_27 dX9_ask_30 dX9_ask_31 dX9_ask_34 dX9_ask_37
  · skip
    refine aw_iload_n (pc := 38) (i := 2) hC dX9_ask_38 rfl rfl ?_
    refine aw_callSR (pc := 39) (As := [.int q2]) hC ms_J6_bitCount_0f7a4 kw453 (by decide) (c_J6_bitCount_0f7a4 G C.2.1   μ3 q2) rfl (Nat.le_of_ble_eq_true rfl) dX9_ask_39 (fun q4 => ?_)
    refine aw_istore_n (pc := 42) (i := 3) hC dX9_ask_42 rfl rfl (by decide) ?_
    refine aw_iconst (pc := 43) (v := (-1)) hC dX9_ask_43 icm1 ?_
    refine aw_istore (pc := 44) hC dX9_ask_44 rfl (by decide) ?_
    refine aw_iload_n (pc := 46) (i := 3) hC dX9_ask_46 rfl rfl ?_
    refine aw_iconst (pc := 47) (v := 1) hC dX9_ask_47 ic1 ?_
    refine aw_iadd (pc := 48) hC dX9_ask_48 ?_
    refine aw_istore (pc := 49) hC dX9_ask_49 rfl (by decide) ?_
    refine aw_iconst (pc := 51) (v := 0) hC dX9_ask_51 ic0 ?_
    refine aw_istore (pc := 52) hC dX9_ask_52 rfl (by decide) ?_
    have hL54 : ∀ (n : Nat) (x5 : Int32) (x6 : Int32) (x7 : Int32), AW G C (qX G C) 0 0 9 μ3 54 [none, none, some (.int q2), some (.int q4), some (.int x5), some (.int x6), some (.int x7), none, none] [] (lp_X9_ask_54 q2 μ3 q4 n x5 x6 x7) := by
      intro n
      induction n with
      | zero => intro x5 x6 x7; exact aw_none
      | succ n ih =>
        intro x5 x6 x7
        rw [lp_X9_ask_54]
        refine aw_iload (pc := 54) hC dX9_ask_54 rfl ?_
        refine aw_bipush (pc := 56) (v := 7) hC dX9_ask_56 bc7 ?_
        refine aw_icmp_ge (pc := 58) (tgt := 117) hC dX9_ask_58 (by decide) (fun _ => ?_) (fun _ => ?_)
        · skip
          refine aw_iload (pc := 117) hC dX9_ask_117 rfl ?_
          exact aw_iretX hC dX9_ask_119
        · skip
          refine aw_iload_n (pc := 61) (i := 3) hC dX9_ask_61 rfl rfl ?_
          refine aw_iconst (pc := 62) (v := 1) hC dX9_ask_62 ic1 ?_
          refine aw_icmp_le (pc := 63) (tgt := 117) hC dX9_ask_63 (by decide) (fun _ => ?_) (fun _ => ?_)
          · skip
            refine aw_iload (pc := 117) hC dX9_ask_117 rfl ?_
            exact aw_iretX hC dX9_ask_119
          · skip
            refine aw_iload_n (pc := 66) (i := 2) hC dX9_ask_66 rfl rfl ?_
            refine aw_bipush (pc := 67) (v := 6) hC dX9_ask_67 bc6 ?_
            refine aw_iload (pc := 69) hC dX9_ask_69 rfl ?_
            refine aw_isub (pc := 71) hC dX9_ask_71 ?_
            refine aw_callSR (pc := 72) (As := [.int q2, .int (6 - x7)]) hC ms_X9_holds kw415 (by decide) (c_X9_holds G C.2.1   μ3 q2 (6 - x7)) rfl (Nat.le_of_ble_eq_true rfl) dX9_ask_72 (fun q8 => ?_)
            refine aw_nmJ (fun (J83 : Int32 → Option (Nat × Int32 × Mem)) => ∀ (x9 : Int32), AW G C (qX G C) 0 0 9 μ3 83 [none, none, some (.int q2), some (.int q4), some (.int x5), some (.int x6), some (.int x7), none, none] [.int x9] (J83 x9)) (fun x9 => ?_) (fun J83 hJ83 => ?_)
            · skip
              refine aw_istore (pc := 83) hC dX9_ask_83 rfl (by decide) ?_
              refine aw_iload (pc := 85) hC dX9_ask_85 rfl ?_
              refine aw_iload_n (pc := 87) (i := 3) hC dX9_ask_87 rfl rfl ?_
              refine aw_iload (pc := 88) hC dX9_ask_88 rfl ?_
              refine aw_isub (pc := 90) hC dX9_ask_90 ?_
              refine aw_mmax (pc := 91) hC kw1190 kw370 kw12 kw371 (by decide) (Nat.le_of_ble_eq_true rfl) dX9_ask_91 ?_
              refine aw_istore (pc := 94) hC dX9_ask_94 rfl (by decide) ?_
              refine aw_iload (pc := 96) hC dX9_ask_96 rfl ?_
              refine aw_iload (pc := 98) hC dX9_ask_98 rfl ?_
              refine aw_icmp_ge (pc := 100) (tgt := 111) hC dX9_ask_100 (by decide) (fun _ => ?_) (fun _ => ?_)
              · skip
                refine aw_iinc (pc := 111) (v := x7 + 1) hC dX9_ask_111 rfl (congrArg (HAdd.hAdd _) ic1) rfl (by decide) ?_
                refine aw_goto (pc := 114) (tgt := 54) hC dX9_ask_114 (by decide) ?_
                exact aw_drop [7, 8] (ih x5 x6 (x7 + 1))
              · skip
                refine aw_iload (pc := 103) hC dX9_ask_103 rfl ?_
                refine aw_istore (pc := 105) hC dX9_ask_105 rfl (by decide) ?_
                refine aw_iload (pc := 107) hC dX9_ask_107 rfl ?_
                refine aw_istore (pc := 109) hC dX9_ask_109 rfl (by decide) ?_
                refine aw_iinc (pc := 111) (v := x7 + 1) hC dX9_ask_111 rfl (congrArg (HAdd.hAdd _) ic1) rfl (by decide) ?_
                refine aw_goto (pc := 114) (tgt := 54) hC dX9_ask_114 (by decide) ?_
                exact aw_drop [7, 8] (ih x7 (jmax x9 (q4 - x9)) (x7 + 1))
            · skip
              refine aw_if_eq (pc := 75) (tgt := 82) hC dX9_ask_75 (by decide) (fun _ => ?_) (fun _ => ?_)
              · skip
                refine aw_iconst (pc := 82) (v := 0) hC dX9_ask_82 ic0 ?_
                exact hJ83 0
              · skip
                refine aw_iconst (pc := 78) (v := 1) hC dX9_ask_78 ic1 ?_
                refine aw_goto (pc := 79) (tgt := 83) hC dX9_ask_79 (by decide) ?_
                exact hJ83 1
    exact aw_drop [0, 1] (hL54 4096 (-1) (q4 + 1) 0)
theorem dX9_weeksThatFit_0 : decode cX9_weeksThatFit 0 = .ok (.lconst 0, 1) := by decide +kernel
theorem dX9_weeksThatFit_1 : decode cX9_weeksThatFit 1 = .ok (.lstore_n 1, 1) := by decide +kernel
theorem dX9_weeksThatFit_2 : decode cX9_weeksThatFit 2 = .ok (.iconst 0, 1) := by decide +kernel
theorem dX9_weeksThatFit_3 : decode cX9_weeksThatFit 3 = .ok (.istore_n 3, 1) := by decide +kernel
theorem dX9_weeksThatFit_4 : decode cX9_weeksThatFit 4 = .ok (.iload_n 3, 1) := by decide +kernel
theorem dX9_weeksThatFit_5 : decode cX9_weeksThatFit 5 = .ok (.bipush 51, 2) := by decide +kernel
theorem dX9_weeksThatFit_7 : decode cX9_weeksThatFit 7 = .ok (.if_icmp .gt 103, 3) := by decide +kernel
theorem dX9_weeksThatFit_10 : decode cX9_weeksThatFit 10 = .ok (.iconst 1, 1) := by decide +kernel
theorem dX9_weeksThatFit_11 : decode cX9_weeksThatFit 11 = .ok (.istore 4, 2) := by decide +kernel
theorem dX9_weeksThatFit_13 : decode cX9_weeksThatFit 13 = .ok (.iconst 0, 1) := by decide +kernel
theorem dX9_weeksThatFit_14 : decode cX9_weeksThatFit 14 = .ok (.istore 5, 2) := by decide +kernel
theorem dX9_weeksThatFit_16 : decode cX9_weeksThatFit 16 = .ok (.iload 5, 2) := by decide +kernel
theorem dX9_weeksThatFit_18 : decode cX9_weeksThatFit 18 = .ok (.iconst 1, 1) := by decide +kernel
theorem dX9_weeksThatFit_19 : decode cX9_weeksThatFit 19 = .ok (.iadd, 1) := by decide +kernel
theorem dX9_weeksThatFit_20 : decode cX9_weeksThatFit 20 = .ok (.aload_n 0, 1) := by decide +kernel
theorem dX9_weeksThatFit_21 : decode cX9_weeksThatFit 21 = .ok (.getfield 10, 3) := by decide +kernel
theorem dX9_weeksThatFit_24 : decode cX9_weeksThatFit 24 = .ok (.getfield 71, 3) := by decide +kernel
theorem dX9_weeksThatFit_27 : decode cX9_weeksThatFit 27 = .ok (.if_icmp .ge 66, 3) := by decide +kernel
theorem dX9_weeksThatFit_30 : decode cX9_weeksThatFit 30 = .ok (.aload_n 0, 1) := by decide +kernel
theorem dX9_weeksThatFit_31 : decode cX9_weeksThatFit 31 = .ok (.getfield 10, 3) := by decide +kernel
theorem dX9_weeksThatFit_34 : decode cX9_weeksThatFit 34 = .ok (.iload 5, 2) := by decide +kernel
theorem dX9_weeksThatFit_36 : decode cX9_weeksThatFit 36 = .ok (.invokevirtual 366, 3) := by decide +kernel
theorem dX9_weeksThatFit_39 : decode cX9_weeksThatFit 39 = .ok (.iload_n 3, 1) := by decide +kernel
theorem dX9_weeksThatFit_40 : decode cX9_weeksThatFit 40 = .ok (.if_icmp .lt 7, 3) := by decide +kernel
theorem dX9_weeksThatFit_43 : decode cX9_weeksThatFit 43 = .ok (.iconst 1, 1) := by decide +kernel
theorem dX9_weeksThatFit_44 : decode cX9_weeksThatFit 44 = .ok (.goto 4, 3) := by decide +kernel
theorem dX9_weeksThatFit_47 : decode cX9_weeksThatFit 47 = .ok (.iconst 0, 1) := by decide +kernel
theorem dX9_weeksThatFit_48 : decode cX9_weeksThatFit 48 = .ok (.istore 6, 2) := by decide +kernel
theorem dX9_weeksThatFit_50 : decode cX9_weeksThatFit 50 = .ok (.iload 4, 2) := by decide +kernel
theorem dX9_weeksThatFit_52 : decode cX9_weeksThatFit 52 = .ok (.ifCond .eq 32, 3) := by decide +kernel
theorem dX9_weeksThatFit_55 : decode cX9_weeksThatFit 55 = .ok (.iload 6, 2) := by decide +kernel
theorem dX9_weeksThatFit_57 : decode cX9_weeksThatFit 57 = .ok (.aload_n 0, 1) := by decide +kernel
theorem dX9_weeksThatFit_58 : decode cX9_weeksThatFit 58 = .ok (.getfield 10, 3) := by decide +kernel
theorem dX9_weeksThatFit_61 : decode cX9_weeksThatFit 61 = .ok (.iload 5, 2) := by decide +kernel
theorem dX9_weeksThatFit_63 : decode cX9_weeksThatFit 63 = .ok (.iconst 1, 1) := by decide +kernel
theorem dX9_weeksThatFit_64 : decode cX9_weeksThatFit 64 = .ok (.iadd, 1) := by decide +kernel
theorem dX9_weeksThatFit_65 : decode cX9_weeksThatFit 65 = .ok (.invokevirtual 366, 3) := by decide +kernel
theorem dX9_weeksThatFit_68 : decode cX9_weeksThatFit 68 = .ok (.iconst 1, 1) := by decide +kernel
theorem dX9_weeksThatFit_69 : decode cX9_weeksThatFit 69 = .ok (.if_icmp .ne 7, 3) := by decide +kernel
theorem dX9_weeksThatFit_72 : decode cX9_weeksThatFit 72 = .ok (.iconst 1, 1) := by decide +kernel
theorem dX9_weeksThatFit_73 : decode cX9_weeksThatFit 73 = .ok (.goto 4, 3) := by decide +kernel
theorem dX9_weeksThatFit_76 : decode cX9_weeksThatFit 76 = .ok (.iconst 0, 1) := by decide +kernel
theorem dX9_weeksThatFit_77 : decode cX9_weeksThatFit 77 = .ok (.if_icmp .ne 7, 3) := by decide +kernel
theorem dX9_weeksThatFit_80 : decode cX9_weeksThatFit 80 = .ok (.iconst 1, 1) := by decide +kernel
theorem dX9_weeksThatFit_81 : decode cX9_weeksThatFit 81 = .ok (.goto 4, 3) := by decide +kernel
theorem dX9_weeksThatFit_84 : decode cX9_weeksThatFit 84 = .ok (.iconst 0, 1) := by decide +kernel
theorem dX9_weeksThatFit_85 : decode cX9_weeksThatFit 85 = .ok (.istore 4, 2) := by decide +kernel
theorem dX9_weeksThatFit_87 : decode cX9_weeksThatFit 87 = .ok (.iinc 5 2, 3) := by decide +kernel
theorem dX9_weeksThatFit_90 : decode cX9_weeksThatFit 90 = .ok (.goto (-74), 3) := by decide +kernel
theorem dX9_weeksThatFit_93 : decode cX9_weeksThatFit 93 = .ok (.iload 4, 2) := by decide +kernel
theorem dX9_weeksThatFit_95 : decode cX9_weeksThatFit 95 = .ok (.ifCond .eq 9, 3) := by decide +kernel
theorem dX9_weeksThatFit_98 : decode cX9_weeksThatFit 98 = .ok (.lload_n 1, 1) := by decide +kernel
theorem dX9_weeksThatFit_99 : decode cX9_weeksThatFit 99 = .ok (.lconst 1, 1) := by decide +kernel
theorem dX9_weeksThatFit_100 : decode cX9_weeksThatFit 100 = .ok (.iload_n 3, 1) := by decide +kernel
theorem dX9_weeksThatFit_101 : decode cX9_weeksThatFit 101 = .ok (.lshl, 1) := by decide +kernel
theorem dX9_weeksThatFit_102 : decode cX9_weeksThatFit 102 = .ok (.lor, 1) := by decide +kernel
theorem dX9_weeksThatFit_103 : decode cX9_weeksThatFit 103 = .ok (.lstore_n 1, 1) := by decide +kernel
theorem dX9_weeksThatFit_104 : decode cX9_weeksThatFit 104 = .ok (.iinc 3 1, 3) := by decide +kernel
theorem dX9_weeksThatFit_107 : decode cX9_weeksThatFit 107 = .ok (.goto (-103), 3) := by decide +kernel
theorem dX9_weeksThatFit_110 : decode cX9_weeksThatFit 110 = .ok (.lload_n 1, 1) := by decide +kernel
theorem dX9_weeksThatFit_111 : decode cX9_weeksThatFit 111 = .ok (.lreturn, 1) := by decide +kernel
def lp_X9_weeksThatFit_16 (μ : Mem) (x2 : Int32) (k93 : Int32 → Option (Int64)) : Nat → Int32 → Int32 → Option (Int64)
  | 0, _, _ => none
  | n + 1, x4, x5 => if (μ 0 1 1) ≤ (x5 + 1) then (k93 x4) else ((f_X7_at μ x5).bind fun (q6 : Int32) => nm (fun (x7 : Int32) => if x4 = 0 then (lp_X9_weeksThatFit_16 μ x2 k93 n 0 (x5 + 2)) else ((f_X7_at μ (x5 + 1)).bind fun (q8 : Int32) => nm (fun (x9 : Int32) => if x7 = x9 then (lp_X9_weeksThatFit_16 μ x2 k93 n 1 (x5 + 2)) else (lp_X9_weeksThatFit_16 μ x2 k93 n 0 (x5 + 2))) fun (J77 : Int32 → Option (Int64)) => if q8 = 1 then (J77 1) else (J77 0))) fun (J48 : Int32 → Option (Int64)) => if q6 < x2 then (J48 0) else (J48 1))
def lp_X9_weeksThatFit_4 (μ : Mem) : Nat → Int64 → Int32 → Option (Int64)
  | 0, _, _ => none
  | n + 1, x1, x2 => if 51 < x2 then (some x1) else (lp_X9_weeksThatFit_16 μ x2 (fun (x3 : Int32) => if x3 = 0 then (lp_X9_weeksThatFit_4 μ n x1 (x2 + 1)) else (lp_X9_weeksThatFit_4 μ n (x1 ||| (jlshl 1 x2)) (x2 + 1))) 4096 1 0)
def f_X9_weeksThatFit (μ : Mem) : Option (Int64) := lp_X9_weeksThatFit_4 μ 4096 0 0
set_option maxHeartbeats 4000000 in
set_option maxRecDepth 100000 in
theorem c_X9_weeksThatFit (G : GG) (l : Launch) (μ : Mem) : CL G l yX9_weeksThatFit (.code yX9_weeksThatFit cX9_weeksThatFit 7 (some .long)) 2 [.ref (gad G 0 0)] μ (f_X9_weeksThatFit μ) := by
  refine CL.of (own := "SaturdayKeep") (L0 := [some (.ref (gad G 0 0)), none, none, none, none, none, none]) rfl rfl rfl (Nat.le_of_ble_eq_true rfl) (fun C hl hC => ?_)
  subst hl
  delta f_X9_weeksThatFit
  refine aw_lconst (pc := 0) (v := 0) hC dX9_weeksThatFit_0 lc0 ?_
  refine aw_lstore_n (pc := 1) (i := 1) hC dX9_weeksThatFit_1 rfl rfl (by decide) ?_
  refine aw_iconst (pc := 2) (v := 0) hC dX9_weeksThatFit_2 ic0 ?_
  refine aw_istore_n (pc := 3) (i := 3) hC dX9_weeksThatFit_3 rfl rfl (by decide) ?_
  have hL4 : ∀ (n : Nat) (x1 : Int64) (x2 : Int32), AW G C (qM G C 0 0 μ) 0 0 7 μ 4 [some (.ref (gad G 0 0)), some (.long x1), none, some (.int x2), none, none, none] [] (lp_X9_weeksThatFit_4 μ n x1 x2) := by
    intro n
    induction n with
    | zero => intro x1 x2; exact aw_none
    | succ n ih =>
      intro x1 x2
      rw [lp_X9_weeksThatFit_4]
      refine aw_iload_n (pc := 4) (i := 3) hC dX9_weeksThatFit_4 rfl rfl ?_
      refine aw_bipush (pc := 5) (v := 51) hC dX9_weeksThatFit_5 bc51 ?_
      refine aw_icmp_gt (pc := 7) (tgt := 110) hC dX9_weeksThatFit_7 (by decide) (fun _ => ?_) (fun _ => ?_)
      · skip
        refine aw_lload_n (pc := 110) (i := 1) hC dX9_weeksThatFit_110 rfl rfl ?_
        exact aw_lretR hC dX9_weeksThatFit_111
      · skip
        refine aw_iconst (pc := 10) (v := 1) hC dX9_weeksThatFit_10 ic1 ?_
        refine aw_istore (pc := 11) hC dX9_weeksThatFit_11 rfl (by decide) ?_
        refine aw_iconst (pc := 13) (v := 0) hC dX9_weeksThatFit_13 ic0 ?_
        refine aw_istore (pc := 14) hC dX9_weeksThatFit_14 rfl (by decide) ?_
        have hL16 : ∀ (k93 : Int32 → Option (Int64)) (hk93 : ∀ (x3 : Int32), AW G C (qM G C 0 0 μ) 0 0 7 μ 93 [some (.ref (gad G 0 0)), some (.long x1), none, some (.int x2), some (.int x3), none, none] [] (k93 x3)) (n : Nat) (x4 : Int32) (x5 : Int32), AW G C (qM G C 0 0 μ) 0 0 7 μ 16 [some (.ref (gad G 0 0)), some (.long x1), none, some (.int x2), some (.int x4), some (.int x5), none] [] (lp_X9_weeksThatFit_16 μ x2 k93 n x4 x5) := by
          intro k93 hk93 n
          induction n with
          | zero => intro x4 x5; exact aw_none
          | succ n ih =>
            intro x4 x5
            rw [lp_X9_weeksThatFit_16]
            refine aw_iload (pc := 16) hC dX9_weeksThatFit_16 rfl ?_
            refine aw_iconst (pc := 18) (v := 1) hC dX9_weeksThatFit_18 ic1 ?_
            refine aw_iadd (pc := 19) hC dX9_weeksThatFit_19 ?_
            refine aw_aload_n (pc := 20) (i := 0) hC dX9_weeksThatFit_20 rfl rfl ?_
            refine aw_get (pc := 21) hC inX9 (v0 (j := 0) (by decide)) rfl rfl 0 (by decide) kw276 rfl rfl dX9_weeksThatFit_21 ?_
            refine aw_get (pc := 24) hC inX7 (v0 (j := 1) (by decide)) rfl rfl 1 (by decide) kw42 rfl rfl dX9_weeksThatFit_24 ?_
            refine aw_icmp_ge (pc := 27) (tgt := 93) hC dX9_weeksThatFit_27 (by decide) (fun _ => ?_) (fun _ => ?_)
            · skip
              exact aw_drop [5] (hk93 x4)
            · skip
              refine aw_aload_n (pc := 30) (i := 0) hC dX9_weeksThatFit_30 rfl rfl ?_
              refine aw_get (pc := 31) hC inX9 (v0 (j := 0) (by decide)) rfl rfl 0 (by decide) kw276 rfl rfl dX9_weeksThatFit_31 ?_
              refine aw_iload (pc := 34) hC dX9_weeksThatFit_34 rfl ?_
              refine aw_callVR (pc := 36) (As := [.int x5]) hC mb_X7_at kw1181 (by decide) (c_X7_at G C.2.1   μ x5) (v0 (j := 1) (by decide)) rfl rfl rfl (Nat.le_of_ble_eq_true rfl) dX9_weeksThatFit_36 (fun q6 => ?_)
              refine aw_iload_n (pc := 39) (i := 3) hC dX9_weeksThatFit_39 rfl rfl ?_
              refine aw_nmJ (fun (J48 : Int32 → Option (Int64)) => ∀ (x7 : Int32), AW G C (qM G C 0 0 μ) 0 0 7 μ 48 [some (.ref (gad G 0 0)), some (.long x1), none, some (.int x2), some (.int x4), some (.int x5), none] [.int x7] (J48 x7)) (fun x7 => ?_) (fun J48 hJ48 => ?_)
              · skip
                refine aw_istore (pc := 48) hC dX9_weeksThatFit_48 rfl (by decide) ?_
                refine aw_iload (pc := 50) hC dX9_weeksThatFit_50 rfl ?_
                refine aw_if_eq (pc := 52) (tgt := 84) hC dX9_weeksThatFit_52 (by decide) (fun _ => ?_) (fun _ => ?_)
                · skip
                  refine aw_iconst (pc := 84) (v := 0) hC dX9_weeksThatFit_84 ic0 ?_
                  refine aw_istore (pc := 85) hC dX9_weeksThatFit_85 rfl (by decide) ?_
                  refine aw_iinc (pc := 87) (v := x5 + 2) hC dX9_weeksThatFit_87 rfl (congrArg (HAdd.hAdd _) ic2) rfl (by decide) ?_
                  refine aw_goto (pc := 90) (tgt := 16) hC dX9_weeksThatFit_90 (by decide) ?_
                  exact aw_drop [6] (ih 0 (x5 + 2))
                · skip
                  refine aw_iload (pc := 55) hC dX9_weeksThatFit_55 rfl ?_
                  refine aw_aload_n (pc := 57) (i := 0) hC dX9_weeksThatFit_57 rfl rfl ?_
                  refine aw_get (pc := 58) hC inX9 (v0 (j := 0) (by decide)) rfl rfl 0 (by decide) kw276 rfl rfl dX9_weeksThatFit_58 ?_
                  refine aw_iload (pc := 61) hC dX9_weeksThatFit_61 rfl ?_
                  refine aw_iconst (pc := 63) (v := 1) hC dX9_weeksThatFit_63 ic1 ?_
                  refine aw_iadd (pc := 64) hC dX9_weeksThatFit_64 ?_
                  refine aw_callVR (pc := 65) (As := [.int (x5 + 1)]) hC mb_X7_at kw1181 (by decide) (c_X7_at G C.2.1   μ (x5 + 1)) (v0 (j := 1) (by decide)) rfl rfl rfl (Nat.le_of_ble_eq_true rfl) dX9_weeksThatFit_65 (fun q8 => ?_)
                  refine aw_iconst (pc := 68) (v := 1) hC dX9_weeksThatFit_68 ic1 ?_
                  refine aw_nmJ (fun (J77 : Int32 → Option (Int64)) => ∀ (x9 : Int32), AW G C (qM G C 0 0 μ) 0 0 7 μ 77 [some (.ref (gad G 0 0)), some (.long x1), none, some (.int x2), none, some (.int x5), none] [.int x9, .int x7] (J77 x9)) (fun x9 => ?_) (fun J77 hJ77 => ?_)
                  · skip
                    refine aw_icmp_ne (pc := 77) (tgt := 84) hC dX9_weeksThatFit_77 (by decide) (fun _ => ?_) (fun _ => ?_)
                    · skip
                      refine aw_iconst (pc := 80) (v := 1) hC dX9_weeksThatFit_80 ic1 ?_
                      refine aw_goto (pc := 81) (tgt := 85) hC dX9_weeksThatFit_81 (by decide) ?_
                      refine aw_istore (pc := 85) hC dX9_weeksThatFit_85 rfl (by decide) ?_
                      refine aw_iinc (pc := 87) (v := x5 + 2) hC dX9_weeksThatFit_87 rfl (congrArg (HAdd.hAdd _) ic2) rfl (by decide) ?_
                      refine aw_goto (pc := 90) (tgt := 16) hC dX9_weeksThatFit_90 (by decide) ?_
                      exact ih 1 (x5 + 2)
                    · skip
                      refine aw_iconst (pc := 84) (v := 0) hC dX9_weeksThatFit_84 ic0 ?_
                      refine aw_istore (pc := 85) hC dX9_weeksThatFit_85 rfl (by decide) ?_
                      refine aw_iinc (pc := 87) (v := x5 + 2) hC dX9_weeksThatFit_87 rfl (congrArg (HAdd.hAdd _) ic2) rfl (by decide) ?_
                      refine aw_goto (pc := 90) (tgt := 16) hC dX9_weeksThatFit_90 (by decide) ?_
                      exact ih 0 (x5 + 2)
                  · skip
                    refine aw_icmp_ne (pc := 69) (tgt := 76) hC dX9_weeksThatFit_69 (by decide) (fun _ => ?_) (fun _ => ?_)
                    · skip
                      refine aw_iconst (pc := 72) (v := 1) hC dX9_weeksThatFit_72 ic1 ?_
                      refine aw_goto (pc := 73) (tgt := 77) hC dX9_weeksThatFit_73 (by decide) ?_
                      exact aw_drop [4, 6] (hJ77 1)
                    · skip
                      refine aw_iconst (pc := 76) (v := 0) hC dX9_weeksThatFit_76 ic0 ?_
                      exact aw_drop [4, 6] (hJ77 0)
              · skip
                refine aw_icmp_lt (pc := 40) (tgt := 47) hC dX9_weeksThatFit_40 (by decide) (fun _ => ?_) (fun _ => ?_)
                · skip
                  refine aw_iconst (pc := 47) (v := 0) hC dX9_weeksThatFit_47 ic0 ?_
                  exact hJ48 0
                · skip
                  refine aw_iconst (pc := 43) (v := 1) hC dX9_weeksThatFit_43 ic1 ?_
                  refine aw_goto (pc := 44) (tgt := 48) hC dX9_weeksThatFit_44 (by decide) ?_
                  exact hJ48 1
        refine hL16 (fun (x3 : Int32) => if x3 = 0 then (lp_X9_weeksThatFit_4 μ n x1 (x2 + 1)) else (lp_X9_weeksThatFit_4 μ n (x1 ||| (jlshl 1 x2)) (x2 + 1))) (fun x3 => ?_) 4096 1 0
        · skip
          refine aw_iload (pc := 93) hC dX9_weeksThatFit_93 rfl ?_
          refine aw_if_eq (pc := 95) (tgt := 104) hC dX9_weeksThatFit_95 (by decide) (fun _ => ?_) (fun _ => ?_)
          · skip
            refine aw_iinc (pc := 104) (v := x2 + 1) hC dX9_weeksThatFit_104 rfl (congrArg (HAdd.hAdd _) ic1) rfl (by decide) ?_
            refine aw_goto (pc := 107) (tgt := 4) hC dX9_weeksThatFit_107 (by decide) ?_
            exact aw_drop [4] (ih x1 (x2 + 1))
          · skip
            refine aw_lload_n (pc := 98) (i := 1) hC dX9_weeksThatFit_98 rfl rfl ?_
            refine aw_lconst (pc := 99) (v := 1) hC dX9_weeksThatFit_99 lc1 ?_
            refine aw_iload_n (pc := 100) (i := 3) hC dX9_weeksThatFit_100 rfl rfl ?_
            refine aw_lshl (pc := 101) hC dX9_weeksThatFit_101 ?_
            refine aw_lor (pc := 102) hC dX9_weeksThatFit_102 ?_
            refine aw_lstore_n (pc := 103) (i := 1) hC dX9_weeksThatFit_103 rfl rfl (by decide) ?_
            refine aw_iinc (pc := 104) (v := x2 + 1) hC dX9_weeksThatFit_104 rfl (congrArg (HAdd.hAdd _) ic1) rfl (by decide) ?_
            refine aw_goto (pc := 107) (tgt := 4) hC dX9_weeksThatFit_107 (by decide) ?_
            exact aw_drop [4] (ih (x1 ||| (jlshl 1 x2)) (x2 + 1))
  exact hL4 4096 0 0
theorem dX9_bored_0 : decode cX9_bored 0 = .ok (.aload_n 0, 1) := by decide +kernel
theorem dX9_bored_1 : decode cX9_bored 1 = .ok (.getfield 10, 3) := by decide +kernel
theorem dX9_bored_4 : decode cX9_bored 4 = .ok (.bipush 51, 2) := by decide +kernel
theorem dX9_bored_6 : decode cX9_bored 6 = .ok (.invokevirtual 358, 3) := by decide +kernel
theorem dX9_bored_9 : decode cX9_bored 9 = .ok (.istore_n 2, 1) := by decide +kernel
theorem dX9_bored_10 : decode cX9_bored 10 = .ok (.aload_n 0, 1) := by decide +kernel
theorem dX9_bored_11 : decode cX9_bored 11 = .ok (.invokevirtual 369, 3) := by decide +kernel
theorem dX9_bored_14 : decode cX9_bored 14 = .ok (.lstore_n 3, 1) := by decide +kernel
theorem dX9_bored_15 : decode cX9_bored 15 = .ok (.aload_n 0, 1) := by decide +kernel
theorem dX9_bored_16 : decode cX9_bored 16 = .ok (.getfield 10, 3) := by decide +kernel
theorem dX9_bored_19 : decode cX9_bored 19 = .ok (.iconst 0, 1) := by decide +kernel
theorem dX9_bored_20 : decode cX9_bored 20 = .ok (.putfield 71, 3) := by decide +kernel
theorem dX9_bored_23 : decode cX9_bored 23 = .ok (.iload_n 2, 1) := by decide +kernel
theorem dX9_bored_24 : decode cX9_bored 24 = .ok (.ifCond .ne 14, 3) := by decide +kernel
theorem dX9_bored_27 : decode cX9_bored 27 = .ok (.new 93, 3) := by decide +kernel
theorem dX9_bored_30 : decode cX9_bored 30 = .ok (.dup, 1) := by decide +kernel
theorem dX9_bored_31 : decode cX9_bored 31 = .ok (.ldc_w 364, 3) := by decide +kernel
theorem dX9_bored_34 : decode cX9_bored 34 = .ok (.invokespecial 97, 3) := by decide +kernel
theorem dX9_bored_37 : decode cX9_bored 37 = .ok (.athrow, 1) := by decide +kernel
theorem dX9_bored_38 : decode cX9_bored 38 = .ok (.iload_n 1, 1) := by decide +kernel
theorem dX9_bored_39 : decode cX9_bored 39 = .ok (.ifCond .ne 8, 3) := by decide +kernel
theorem dX9_bored_42 : decode cX9_bored 42 = .ok (.lload_n 3, 1) := by decide +kernel
theorem dX9_bored_43 : decode cX9_bored 43 = .ok (.invokestatic 373, 3) := by decide +kernel
theorem dX9_bored_46 : decode cX9_bored 46 = .ok (.ireturn, 1) := by decide +kernel
theorem dX9_bored_47 : decode cX9_bored 47 = .ok (.iconst 0, 1) := by decide +kernel
theorem dX9_bored_48 : decode cX9_bored 48 = .ok (.istore 5, 2) := by decide +kernel
theorem dX9_bored_50 : decode cX9_bored 50 = .ok (.iload 5, 2) := by decide +kernel
theorem dX9_bored_52 : decode cX9_bored 52 = .ok (.bipush 51, 2) := by decide +kernel
theorem dX9_bored_54 : decode cX9_bored 54 = .ok (.if_icmp .gt 23, 3) := by decide +kernel
theorem dX9_bored_57 : decode cX9_bored 57 = .ok (.lload_n 3, 1) := by decide +kernel
theorem dX9_bored_58 : decode cX9_bored 58 = .ok (.iload 5, 2) := by decide +kernel
theorem dX9_bored_60 : decode cX9_bored 60 = .ok (.lshr, 1) := by decide +kernel
theorem dX9_bored_61 : decode cX9_bored 61 = .ok (.lconst 1, 1) := by decide +kernel
theorem dX9_bored_62 : decode cX9_bored 62 = .ok (.land, 1) := by decide +kernel
theorem dX9_bored_63 : decode cX9_bored 63 = .ok (.lconst 1, 1) := by decide +kernel
theorem dX9_bored_64 : decode cX9_bored 64 = .ok (.lcmp, 1) := by decide +kernel
theorem dX9_bored_65 : decode cX9_bored 65 = .ok (.ifCond .ne 6, 3) := by decide +kernel
theorem dX9_bored_68 : decode cX9_bored 68 = .ok (.iload 5, 2) := by decide +kernel
theorem dX9_bored_70 : decode cX9_bored 70 = .ok (.ireturn, 1) := by decide +kernel
theorem dX9_bored_71 : decode cX9_bored 71 = .ok (.iinc 5 1, 3) := by decide +kernel
theorem dX9_bored_74 : decode cX9_bored 74 = .ok (.goto (-24), 3) := by decide +kernel
theorem dX9_bored_77 : decode cX9_bored 77 = .ok (.iconst (-1), 1) := by decide +kernel
theorem dX9_bored_78 : decode cX9_bored 78 = .ok (.ireturn, 1) := by decide +kernel
def lp_X9_bored_50 (q2 : Int64) (μ3 : Mem) : Nat → Int32 → Option (Nat × Int32 × Mem)
  | 0, _ => none
  | n + 1, x5 => if 51 < x5 then (some (0, (-1), μ3)) else (if (lg_cmp ((jlshr q2 x5) &&& 1) 1) = 0 then (some (0, x5, μ3)) else (lp_X9_bored_50 q2 μ3 n (x5 + 1)))
def f_X9_bored (μ : Mem) (a1 : Int32) : Option (Nat × Int32 × Mem) := (f_X7_isTold μ 51).bind fun (q1 : Int32) => (f_X9_weeksThatFit μ).bind fun (q2 : Int64) => nm (upm μ 0 1 1 0) fun (μ3 : Mem) => if q1 = 0 then (some (1, 0, μ3)) else (if a1 = 0 then ((f_J13_bitCount_95d88 q2).bind fun (q4 : Int32) => some (0, q4, μ3)) else (lp_X9_bored_50 q2 μ3 4096 0))
set_option maxHeartbeats 4000000 in
set_option maxRecDepth 100000 in
theorem c_X9_bored (G : GG) (l : Launch) (hl0 : l.stackTraces = false) (μ : Mem) (a1 : Int32) : CXT G l yX9_bored (.code yX9_bored cX9_bored 6 (some .int)) 5 [.ref (gad G 0 0), .int a1] μ (f_X9_bored μ a1) := by
  refine CXT.of (own := "SaturdayKeep") (L0 := [some (.ref (gad G 0 0)), some (.int a1), none, none, none, none]) hl0 rfl rfl rfl (Nat.le_of_ble_eq_true rfl) (fun C hl1 hl hout hcs hC => ?_)
  subst hl1
  delta f_X9_bored
  refine aw_aload_n (pc := 0) (i := 0) hC dX9_bored_0 rfl rfl ?_
  refine aw_get (pc := 1) hC inX9 (v0 (j := 0) (by decide)) rfl rfl 0 (by decide) kw276 rfl rfl dX9_bored_1 ?_
  refine aw_bipush (pc := 4) (v := 51) hC dX9_bored_4 bc51 ?_
  refine aw_callVR (pc := 6) (As := [.int 51]) hC mb_X7_isTold kw1172 (by decide) (c_X7_isTold G C.2.1   μ 51) (v0 (j := 1) (by decide)) rfl rfl rfl (Nat.le_of_ble_eq_true rfl) dX9_bored_6 (fun q1 => ?_)
  refine aw_istore_n (pc := 9) (i := 2) hC dX9_bored_9 rfl rfl (by decide) ?_
  refine aw_aload_n (pc := 10) (i := 0) hC dX9_bored_10 rfl rfl ?_
  refine aw_callVL (pc := 11) (As := []) hC mb_X9_weeksThatFit kw1198 (by decide) (c_X9_weeksThatFit G C.2.1   μ ) (v0 (j := 0) (by decide)) rfl rfl rfl (Nat.le_of_ble_eq_true rfl) dX9_bored_11 (fun q2 => ?_)
  refine aw_lstore_n (pc := 14) (i := 3) hC dX9_bored_14 rfl rfl (by decide) ?_
  refine aw_aload_n (pc := 15) (i := 0) hC dX9_bored_15 rfl rfl ?_
  refine aw_get (pc := 16) hC inX9 (v0 (j := 0) (by decide)) rfl rfl 0 (by decide) kw276 rfl rfl dX9_bored_16 ?_
  refine aw_iconst (pc := 19) (v := 0) hC dX9_bored_19 ic0 ?_
  refine aw_putIN (pc := 20) hC inX7 (v0 (j := 1) (by decide)) rfl rfl 1 (by decide) kw42 rfl tyX7 tyX7_ok nmX7 rfl rfl (Nat.le_of_ble_eq_true rfl) rfl dX9_bored_20 (fun μ3 => ?_)
  refine aw_iload_n (pc := 23) (i := 2) hC dX9_bored_23 rfl rfl ?_
  refine aw_if_ne (pc := 24) (tgt := 38) hC dX9_bored_24 (by decide) (fun _ => ?_) (fun _ => ?_)
  · skip
    exact aw_throwW (k := 1) (i := 42) hC hl hout hcs rfl rfl kw745 kw21 thr1_97 (by decide) (by decide) (Nat.le_of_ble_eq_true rfl) dX9_bored_27 dX9_bored_30 dX9_bored_31 dX9_bored_34 dX9_bored_37
  · skip
    refine aw_iload_n (pc := 38) (i := 1) hC dX9_bored_38 rfl rfl ?_
    refine aw_if_ne (pc := 39) (tgt := 47) hC dX9_bored_39 (by decide) (fun _ => ?_) (fun _ => ?_)
    · skip
      refine aw_lload_n (pc := 42) (i := 3) hC dX9_bored_42 rfl rfl ?_
      refine aw_callSR (pc := 43) (As := [.long q2]) hC ms_J13_bitCount_95d88 kw1202 (by decide) (c_J13_bitCount_95d88 G C.2.1   μ3 q2) rfl (Nat.le_of_ble_eq_true rfl) dX9_bored_43 (fun q4 => ?_)
      exact aw_iretX hC dX9_bored_46
    · skip
      refine aw_iconst (pc := 47) (v := 0) hC dX9_bored_47 ic0 ?_
      refine aw_istore (pc := 48) hC dX9_bored_48 rfl (by decide) ?_
      have hL50 : ∀ (n : Nat) (x5 : Int32), AW G C (qX G C) 0 0 6 μ3 50 [none, none, none, some (.long q2), none, some (.int x5)] [] (lp_X9_bored_50 q2 μ3 n x5) := by
        intro n
        induction n with
        | zero => intro x5; exact aw_none
        | succ n ih =>
          intro x5
          rw [lp_X9_bored_50]
          refine aw_iload (pc := 50) hC dX9_bored_50 rfl ?_
          refine aw_bipush (pc := 52) (v := 51) hC dX9_bored_52 bc51 ?_
          refine aw_icmp_gt (pc := 54) (tgt := 77) hC dX9_bored_54 (by decide) (fun _ => ?_) (fun _ => ?_)
          · skip
            refine aw_iconst (pc := 77) (v := (-1)) hC dX9_bored_77 icm1 ?_
            exact aw_iretX hC dX9_bored_78
          · skip
            refine aw_lload_n (pc := 57) (i := 3) hC dX9_bored_57 rfl rfl ?_
            refine aw_iload (pc := 58) hC dX9_bored_58 rfl ?_
            refine aw_lshr (pc := 60) hC dX9_bored_60 ?_
            refine aw_lconst (pc := 61) (v := 1) hC dX9_bored_61 lc1 ?_
            refine aw_land (pc := 62) hC dX9_bored_62 ?_
            refine aw_lconst (pc := 63) (v := 1) hC dX9_bored_63 lc1 ?_
            refine aw_lcmp (pc := 64) hC dX9_bored_64 ?_
            refine aw_if_ne (pc := 65) (tgt := 71) hC dX9_bored_65 (by decide) (fun _ => ?_) (fun _ => ?_)
            · skip
              refine aw_iload (pc := 68) hC dX9_bored_68 rfl ?_
              exact aw_iretX hC dX9_bored_70
            · skip
              refine aw_iinc (pc := 71) (v := x5 + 1) hC dX9_bored_71 rfl (congrArg (HAdd.hAdd _) ic1) rfl (by decide) ?_
              refine aw_goto (pc := 74) (tgt := 50) hC dX9_bored_74 (by decide) ?_
              exact ih (x5 + 1)
      exact aw_drop [0, 1, 2] (hL50 4096 0)
theorem dX9_look_0 : decode cX9_look 0 = .ok (.aload_n 0, 1) := by decide +kernel
theorem dX9_look_1 : decode cX9_look 1 = .ok (.getfield 10, 3) := by decide +kernel
theorem dX9_look_4 : decode cX9_look 4 = .ok (.bipush 51, 2) := by decide +kernel
theorem dX9_look_6 : decode cX9_look 6 = .ok (.invokevirtual 358, 3) := by decide +kernel
theorem dX9_look_9 : decode cX9_look 9 = .ok (.istore_n 1, 1) := by decide +kernel
theorem dX9_look_10 : decode cX9_look 10 = .ok (.aload_n 0, 1) := by decide +kernel
theorem dX9_look_11 : decode cX9_look 11 = .ok (.invokevirtual 369, 3) := by decide +kernel
theorem dX9_look_14 : decode cX9_look 14 = .ok (.lstore_n 2, 1) := by decide +kernel
theorem dX9_look_15 : decode cX9_look 15 = .ok (.aload_n 0, 1) := by decide +kernel
theorem dX9_look_16 : decode cX9_look 16 = .ok (.getfield 10, 3) := by decide +kernel
theorem dX9_look_19 : decode cX9_look 19 = .ok (.iconst 0, 1) := by decide +kernel
theorem dX9_look_20 : decode cX9_look 20 = .ok (.putfield 71, 3) := by decide +kernel
theorem dX9_look_23 : decode cX9_look 23 = .ok (.iload_n 1, 1) := by decide +kernel
theorem dX9_look_24 : decode cX9_look 24 = .ok (.ifCond .ne 14, 3) := by decide +kernel
theorem dX9_look_27 : decode cX9_look 27 = .ok (.new 93, 3) := by decide +kernel
theorem dX9_look_30 : decode cX9_look 30 = .ok (.dup, 1) := by decide +kernel
theorem dX9_look_31 : decode cX9_look 31 = .ok (.ldc_w 364, 3) := by decide +kernel
theorem dX9_look_34 : decode cX9_look 34 = .ok (.invokespecial 97, 3) := by decide +kernel
theorem dX9_look_37 : decode cX9_look 37 = .ok (.athrow, 1) := by decide +kernel
theorem dX9_look_38 : decode cX9_look 38 = .ok (.lload_n 2, 1) := by decide +kernel
theorem dX9_look_39 : decode cX9_look 39 = .ok (.invokestatic 373, 3) := by decide +kernel
theorem dX9_look_42 : decode cX9_look 42 = .ok (.istore 4, 2) := by decide +kernel
theorem dX9_look_44 : decode cX9_look 44 = .ok (.iconst (-1), 1) := by decide +kernel
theorem dX9_look_45 : decode cX9_look 45 = .ok (.istore 5, 2) := by decide +kernel
theorem dX9_look_47 : decode cX9_look 47 = .ok (.iload 4, 2) := by decide +kernel
theorem dX9_look_49 : decode cX9_look 49 = .ok (.iconst 1, 1) := by decide +kernel
theorem dX9_look_50 : decode cX9_look 50 = .ok (.iadd, 1) := by decide +kernel
theorem dX9_look_51 : decode cX9_look 51 = .ok (.istore 6, 2) := by decide +kernel
theorem dX9_look_53 : decode cX9_look 53 = .ok (.iconst 0, 1) := by decide +kernel
theorem dX9_look_54 : decode cX9_look 54 = .ok (.istore 7, 2) := by decide +kernel
theorem dX9_look_56 : decode cX9_look 56 = .ok (.iconst 0, 1) := by decide +kernel
theorem dX9_look_57 : decode cX9_look 57 = .ok (.istore 8, 2) := by decide +kernel
theorem dX9_look_59 : decode cX9_look 59 = .ok (.iload 8, 2) := by decide +kernel
theorem dX9_look_61 : decode cX9_look 61 = .ok (.bipush 51, 2) := by decide +kernel
theorem dX9_look_63 : decode cX9_look 63 = .ok (.if_icmp .gt 54, 3) := by decide +kernel
theorem dX9_look_66 : decode cX9_look 66 = .ok (.iload 4, 2) := by decide +kernel
theorem dX9_look_68 : decode cX9_look 68 = .ok (.iconst 1, 1) := by decide +kernel
theorem dX9_look_69 : decode cX9_look 69 = .ok (.if_icmp .le 48, 3) := by decide +kernel
theorem dX9_look_72 : decode cX9_look 72 = .ok (.iload 7, 2) := by decide +kernel
theorem dX9_look_74 : decode cX9_look 74 = .ok (.lload_n 2, 1) := by decide +kernel
theorem dX9_look_75 : decode cX9_look 75 = .ok (.iload 8, 2) := by decide +kernel
theorem dX9_look_77 : decode cX9_look 77 = .ok (.lshr, 1) := by decide +kernel
theorem dX9_look_78 : decode cX9_look 78 = .ok (.lconst 1, 1) := by decide +kernel
theorem dX9_look_79 : decode cX9_look 79 = .ok (.land, 1) := by decide +kernel
theorem dX9_look_80 : decode cX9_look 80 = .ok (.l2i, 1) := by decide +kernel
theorem dX9_look_81 : decode cX9_look 81 = .ok (.iadd, 1) := by decide +kernel
theorem dX9_look_82 : decode cX9_look 82 = .ok (.istore 7, 2) := by decide +kernel
theorem dX9_look_84 : decode cX9_look 84 = .ok (.iload 7, 2) := by decide +kernel
theorem dX9_look_86 : decode cX9_look 86 = .ok (.iload 4, 2) := by decide +kernel
theorem dX9_look_88 : decode cX9_look 88 = .ok (.iload 7, 2) := by decide +kernel
theorem dX9_look_90 : decode cX9_look 90 = .ok (.isub, 1) := by decide +kernel
theorem dX9_look_91 : decode cX9_look 91 = .ok (.invokestatic 300, 3) := by decide +kernel
theorem dX9_look_94 : decode cX9_look 94 = .ok (.istore 9, 2) := by decide +kernel
theorem dX9_look_96 : decode cX9_look 96 = .ok (.iload 9, 2) := by decide +kernel
theorem dX9_look_98 : decode cX9_look 98 = .ok (.iload 6, 2) := by decide +kernel
theorem dX9_look_100 : decode cX9_look 100 = .ok (.if_icmp .ge 11, 3) := by decide +kernel
theorem dX9_look_103 : decode cX9_look 103 = .ok (.iload 9, 2) := by decide +kernel
theorem dX9_look_105 : decode cX9_look 105 = .ok (.istore 6, 2) := by decide +kernel
theorem dX9_look_107 : decode cX9_look 107 = .ok (.iload 8, 2) := by decide +kernel
theorem dX9_look_109 : decode cX9_look 109 = .ok (.istore 5, 2) := by decide +kernel
theorem dX9_look_111 : decode cX9_look 111 = .ok (.iinc 8 1, 3) := by decide +kernel
theorem dX9_look_114 : decode cX9_look 114 = .ok (.goto (-55), 3) := by decide +kernel
theorem dX9_look_117 : decode cX9_look 117 = .ok (.iload 5, 2) := by decide +kernel
theorem dX9_look_119 : decode cX9_look 119 = .ok (.ireturn, 1) := by decide +kernel
def lp_X9_look_59 (q2 : Int64) (μ3 : Mem) (q4 : Int32) : Nat → Int32 → Int32 → Int32 → Int32 → Option (Nat × Int32 × Mem)
  | 0, _, _, _, _ => none
  | n + 1, x5, x6, x7, x8 => if 51 < x8 then (some (0, x5, μ3)) else (if q4 ≤ 1 then (some (0, x5, μ3)) else (nm (x7 + (((jlshr q2 x8) &&& 1).toInt32)) fun (x9 : Int32) => if x6 ≤ (jmax x9 (q4 - x9)) then (lp_X9_look_59 q2 μ3 q4 n x5 x6 x9 (x8 + 1)) else (lp_X9_look_59 q2 μ3 q4 n x8 (jmax x9 (q4 - x9)) x9 (x8 + 1))))
def f_X9_look (μ : Mem) : Option (Nat × Int32 × Mem) := (f_X7_isTold μ 51).bind fun (q1 : Int32) => (f_X9_weeksThatFit μ).bind fun (q2 : Int64) => nm (upm μ 0 1 1 0) fun (μ3 : Mem) => if q1 = 0 then (some (1, 0, μ3)) else ((f_J13_bitCount_95d88 q2).bind fun (q4 : Int32) => lp_X9_look_59 q2 μ3 q4 4096 (-1) (q4 + 1) 0 0)
set_option maxHeartbeats 4000000 in
set_option maxRecDepth 100000 in
theorem c_X9_look (G : GG) (l : Launch) (hl0 : l.stackTraces = false) (μ : Mem) : CXT G l yX9_look (.code yX9_look cX9_look 10 (some .int)) 5 [.ref (gad G 0 0)] μ (f_X9_look μ) := by
  refine CXT.of (own := "SaturdayKeep") (L0 := [some (.ref (gad G 0 0)), none, none, none, none, none, none, none, none, none]) hl0 rfl rfl rfl (Nat.le_of_ble_eq_true rfl) (fun C hl1 hl hout hcs hC => ?_)
  subst hl1
  delta f_X9_look
  refine aw_aload_n (pc := 0) (i := 0) hC dX9_look_0 rfl rfl ?_
  refine aw_get (pc := 1) hC inX9 (v0 (j := 0) (by decide)) rfl rfl 0 (by decide) kw276 rfl rfl dX9_look_1 ?_
  refine aw_bipush (pc := 4) (v := 51) hC dX9_look_4 bc51 ?_
  refine aw_callVR (pc := 6) (As := [.int 51]) hC mb_X7_isTold kw1172 (by decide) (c_X7_isTold G C.2.1   μ 51) (v0 (j := 1) (by decide)) rfl rfl rfl (Nat.le_of_ble_eq_true rfl) dX9_look_6 (fun q1 => ?_)
  refine aw_istore_n (pc := 9) (i := 1) hC dX9_look_9 rfl rfl (by decide) ?_
  refine aw_aload_n (pc := 10) (i := 0) hC dX9_look_10 rfl rfl ?_
  refine aw_callVL (pc := 11) (As := []) hC mb_X9_weeksThatFit kw1198 (by decide) (c_X9_weeksThatFit G C.2.1   μ ) (v0 (j := 0) (by decide)) rfl rfl rfl (Nat.le_of_ble_eq_true rfl) dX9_look_11 (fun q2 => ?_)
  refine aw_lstore_n (pc := 14) (i := 2) hC dX9_look_14 rfl rfl (by decide) ?_
  refine aw_aload_n (pc := 15) (i := 0) hC dX9_look_15 rfl rfl ?_
  refine aw_get (pc := 16) hC inX9 (v0 (j := 0) (by decide)) rfl rfl 0 (by decide) kw276 rfl rfl dX9_look_16 ?_
  refine aw_iconst (pc := 19) (v := 0) hC dX9_look_19 ic0 ?_
  refine aw_putIN (pc := 20) hC inX7 (v0 (j := 1) (by decide)) rfl rfl 1 (by decide) kw42 rfl tyX7 tyX7_ok nmX7 rfl rfl (Nat.le_of_ble_eq_true rfl) rfl dX9_look_20 (fun μ3 => ?_)
  refine aw_iload_n (pc := 23) (i := 1) hC dX9_look_23 rfl rfl ?_
  refine aw_if_ne (pc := 24) (tgt := 38) hC dX9_look_24 (by decide) (fun _ => ?_) (fun _ => ?_)
  · skip
    exact aw_throwW (k := 1) (i := 42) hC hl hout hcs rfl rfl kw745 kw21 thr1_97 (by decide) (by decide) (Nat.le_of_ble_eq_true rfl) dX9_look_27 dX9_look_30 dX9_look_31 dX9_look_34 dX9_look_37
  · skip
    refine aw_lload_n (pc := 38) (i := 2) hC dX9_look_38 rfl rfl ?_
    refine aw_callSR (pc := 39) (As := [.long q2]) hC ms_J13_bitCount_95d88 kw1202 (by decide) (c_J13_bitCount_95d88 G C.2.1   μ3 q2) rfl (Nat.le_of_ble_eq_true rfl) dX9_look_39 (fun q4 => ?_)
    refine aw_istore (pc := 42) hC dX9_look_42 rfl (by decide) ?_
    refine aw_iconst (pc := 44) (v := (-1)) hC dX9_look_44 icm1 ?_
    refine aw_istore (pc := 45) hC dX9_look_45 rfl (by decide) ?_
    refine aw_iload (pc := 47) hC dX9_look_47 rfl ?_
    refine aw_iconst (pc := 49) (v := 1) hC dX9_look_49 ic1 ?_
    refine aw_iadd (pc := 50) hC dX9_look_50 ?_
    refine aw_istore (pc := 51) hC dX9_look_51 rfl (by decide) ?_
    refine aw_iconst (pc := 53) (v := 0) hC dX9_look_53 ic0 ?_
    refine aw_istore (pc := 54) hC dX9_look_54 rfl (by decide) ?_
    refine aw_iconst (pc := 56) (v := 0) hC dX9_look_56 ic0 ?_
    refine aw_istore (pc := 57) hC dX9_look_57 rfl (by decide) ?_
    have hL59 : ∀ (n : Nat) (x5 : Int32) (x6 : Int32) (x7 : Int32) (x8 : Int32), AW G C (qX G C) 0 0 10 μ3 59 [none, none, some (.long q2), none, some (.int q4), some (.int x5), some (.int x6), some (.int x7), some (.int x8), none] [] (lp_X9_look_59 q2 μ3 q4 n x5 x6 x7 x8) := by
      intro n
      induction n with
      | zero => intro x5 x6 x7 x8; exact aw_none
      | succ n ih =>
        intro x5 x6 x7 x8
        rw [lp_X9_look_59]
        refine aw_iload (pc := 59) hC dX9_look_59 rfl ?_
        refine aw_bipush (pc := 61) (v := 51) hC dX9_look_61 bc51 ?_
        refine aw_icmp_gt (pc := 63) (tgt := 117) hC dX9_look_63 (by decide) (fun _ => ?_) (fun _ => ?_)
        · skip
          refine aw_iload (pc := 117) hC dX9_look_117 rfl ?_
          exact aw_iretX hC dX9_look_119
        · skip
          refine aw_iload (pc := 66) hC dX9_look_66 rfl ?_
          refine aw_iconst (pc := 68) (v := 1) hC dX9_look_68 ic1 ?_
          refine aw_icmp_le (pc := 69) (tgt := 117) hC dX9_look_69 (by decide) (fun _ => ?_) (fun _ => ?_)
          · skip
            refine aw_iload (pc := 117) hC dX9_look_117 rfl ?_
            exact aw_iretX hC dX9_look_119
          · skip
            refine aw_iload (pc := 72) hC dX9_look_72 rfl ?_
            refine aw_lload_n (pc := 74) (i := 2) hC dX9_look_74 rfl rfl ?_
            refine aw_iload (pc := 75) hC dX9_look_75 rfl ?_
            refine aw_lshr (pc := 77) hC dX9_look_77 ?_
            refine aw_lconst (pc := 78) (v := 1) hC dX9_look_78 lc1 ?_
            refine aw_land (pc := 79) hC dX9_look_79 ?_
            refine aw_l2i (pc := 80) hC dX9_look_80 ?_
            refine aw_iadd (pc := 81) hC dX9_look_81 ?_
            refine aw_nmI (fun x9 _ => ?_)
            refine aw_istore (pc := 82) hC dX9_look_82 rfl (by decide) ?_
            refine aw_iload (pc := 84) hC dX9_look_84 rfl ?_
            refine aw_iload (pc := 86) hC dX9_look_86 rfl ?_
            refine aw_iload (pc := 88) hC dX9_look_88 rfl ?_
            refine aw_isub (pc := 90) hC dX9_look_90 ?_
            refine aw_mmax (pc := 91) hC kw1190 kw370 kw12 kw371 (by decide) (Nat.le_of_ble_eq_true rfl) dX9_look_91 ?_
            refine aw_istore (pc := 94) hC dX9_look_94 rfl (by decide) ?_
            refine aw_iload (pc := 96) hC dX9_look_96 rfl ?_
            refine aw_iload (pc := 98) hC dX9_look_98 rfl ?_
            refine aw_icmp_ge (pc := 100) (tgt := 111) hC dX9_look_100 (by decide) (fun _ => ?_) (fun _ => ?_)
            · skip
              refine aw_iinc (pc := 111) (v := x8 + 1) hC dX9_look_111 rfl (congrArg (HAdd.hAdd _) ic1) rfl (by decide) ?_
              refine aw_goto (pc := 114) (tgt := 59) hC dX9_look_114 (by decide) ?_
              exact aw_drop [9] (ih x5 x6 x9 (x8 + 1))
            · skip
              refine aw_iload (pc := 103) hC dX9_look_103 rfl ?_
              refine aw_istore (pc := 105) hC dX9_look_105 rfl (by decide) ?_
              refine aw_iload (pc := 107) hC dX9_look_107 rfl ?_
              refine aw_istore (pc := 109) hC dX9_look_109 rfl (by decide) ?_
              refine aw_iinc (pc := 111) (v := x8 + 1) hC dX9_look_111 rfl (congrArg (HAdd.hAdd _) ic1) rfl (by decide) ?_
              refine aw_goto (pc := 114) (tgt := 59) hC dX9_look_114 (by decide) ?_
              exact aw_drop [9] (ih x8 (jmax x9 (q4 - x9)) x9 (x8 + 1))
    exact aw_drop [0, 1] (hL59 4096 (-1) (q4 + 1) 0 0)
theorem dX9_line_0 : decode cX9_line 0 = .ok (.iload_n 1, 1) := by decide +kernel
theorem dX9_line_1 : decode cX9_line 1 = .ok (.invokestatic 185, 3) := by decide +kernel
theorem dX9_line_4 : decode cX9_line 4 = .ok (.ifCond .eq 10, 3) := by decide +kernel
theorem dX9_line_7 : decode cX9_line 7 = .ok (.iload_n 2, 1) := by decide +kernel
theorem dX9_line_8 : decode cX9_line 8 = .ok (.invokestatic 185, 3) := by decide +kernel
theorem dX9_line_11 : decode cX9_line 11 = .ok (.ifCond .ne 13, 3) := by decide +kernel
theorem dX9_line_14 : decode cX9_line 14 = .ok (.new 134, 3) := by decide +kernel
theorem dX9_line_17 : decode cX9_line 17 = .ok (.dup, 1) := by decide +kernel
theorem dX9_line_18 : decode cX9_line 18 = .ok (.ldc 188, 2) := by decide +kernel
theorem dX9_line_20 : decode cX9_line 20 = .ok (.invokespecial 138, 3) := by decide +kernel
theorem dX9_line_23 : decode cX9_line 23 = .ok (.athrow, 1) := by decide +kernel
theorem dX9_line_24 : decode cX9_line 24 = .ok (.iconst 1, 1) := by decide +kernel
theorem dX9_line_25 : decode cX9_line 25 = .ok (.iload_n 1, 1) := by decide +kernel
theorem dX9_line_26 : decode cX9_line 26 = .ok (.ishl, 1) := by decide +kernel
theorem dX9_line_27 : decode cX9_line 27 = .ok (.istore_n 3, 1) := by decide +kernel
theorem dX9_line_28 : decode cX9_line 28 = .ok (.iconst 0, 1) := by decide +kernel
theorem dX9_line_29 : decode cX9_line 29 = .ok (.istore 4, 2) := by decide +kernel
theorem dX9_line_31 : decode cX9_line 31 = .ok (.iload 4, 2) := by decide +kernel
theorem dX9_line_33 : decode cX9_line 33 = .ok (.bipush 8, 2) := by decide +kernel
theorem dX9_line_35 : decode cX9_line 35 = .ok (.if_icmp .ge 31, 3) := by decide +kernel
theorem dX9_line_38 : decode cX9_line 38 = .ok (.iload_n 3, 1) := by decide +kernel
theorem dX9_line_39 : decode cX9_line 39 = .ok (.iload_n 2, 1) := by decide +kernel
theorem dX9_line_40 : decode cX9_line 40 = .ok (.invokestatic 158, 3) := by decide +kernel
theorem dX9_line_43 : decode cX9_line 43 = .ok (.ifCond .eq 6, 3) := by decide +kernel
theorem dX9_line_46 : decode cX9_line 46 = .ok (.iload 4, 2) := by decide +kernel
theorem dX9_line_48 : decode cX9_line 48 = .ok (.ireturn, 1) := by decide +kernel
theorem dX9_line_49 : decode cX9_line 49 = .ok (.iload_n 3, 1) := by decide +kernel
theorem dX9_line_50 : decode cX9_line 50 = .ok (.aload_n 0, 1) := by decide +kernel
theorem dX9_line_51 : decode cX9_line 51 = .ok (.getfield 42, 3) := by decide +kernel
theorem dX9_line_54 : decode cX9_line 54 = .ok (.iload_n 3, 1) := by decide +kernel
theorem dX9_line_55 : decode cX9_line 55 = .ok (.invokevirtual 381, 3) := by decide +kernel
theorem dX9_line_58 : decode cX9_line 58 = .ok (.ior, 1) := by decide +kernel
theorem dX9_line_59 : decode cX9_line 59 = .ok (.istore_n 3, 1) := by decide +kernel
theorem dX9_line_60 : decode cX9_line 60 = .ok (.iinc 4 1, 3) := by decide +kernel
theorem dX9_line_63 : decode cX9_line 63 = .ok (.goto (-32), 3) := by decide +kernel
theorem dX9_line_66 : decode cX9_line 66 = .ok (.iconst (-1), 1) := by decide +kernel
theorem dX9_line_67 : decode cX9_line 67 = .ok (.ireturn, 1) := by decide +kernel
def lp_X9_line_31 (a2 : Int32) (μ : Mem) : Nat → Int32 → Int32 → Option (Nat × Int32 × Mem)
  | 0, _, _ => none
  | n + 1, x3, x4 => if 8 ≤ x4 then (some (0, (-1), μ)) else ((f_X9_holds x3 a2).bind fun (q5 : Int32) => if q5 = 0 then ((f_X2_holesFromAny 0 μ x3).bind fun (q6 : Int32) => lp_X9_line_31 a2 μ n (x3 ||| q6) (x4 + 1)) else (some (0, x4, μ)))
def f_X9_line (μ : Mem) (a1 : Int32) (a2 : Int32) : Option (Nat × Int32 × Mem) := (f_X9_isRoom a1).bind fun (q1 : Int32) => nm (some (3, 0, μ)) fun (J14 : Option (Nat × Int32 × Mem)) => if q1 = 0 then (J14) else ((f_X9_isRoom a2).bind fun (q2 : Int32) => if q2 = 0 then (J14) else (lp_X9_line_31 a2 μ 4096 (jshl 1 a1) 0))
set_option maxHeartbeats 4000000 in
set_option maxRecDepth 100000 in
theorem c_X9_line (G : GG) (l : Launch) (hl0 : l.stackTraces = false) (μ : Mem) (a1 : Int32) (a2 : Int32) : CXT G l yX9_line (.code yX9_line cX9_line 5 (some .int)) 5 [.ref (gad G 0 0), .int a1, .int a2] μ (f_X9_line μ a1 a2) := by
  refine CXT.of (own := "SaturdayKeep") (L0 := [some (.ref (gad G 0 0)), some (.int a1), some (.int a2), none, none]) hl0 rfl rfl rfl (Nat.le_of_ble_eq_true rfl) (fun C hl1 hl hout hcs hC => ?_)
  subst hl1
  delta f_X9_line
  refine aw_iload_n (pc := 0) (i := 1) hC dX9_line_0 rfl rfl ?_
  refine aw_callSR (pc := 1) (As := [.int a1]) hC ms_X9_isRoom kw949 (by decide) (c_X9_isRoom G C.2.1   μ a1) rfl (Nat.le_of_ble_eq_true rfl) dX9_line_1 (fun q1 => ?_)
  refine aw_nmJ (fun (J14 : Option (Nat × Int32 × Mem)) => AW G C (qX G C) 0 0 5 μ 14 [none, none, none, none, none] [] (J14)) ?_ (fun J14 hJ14 => ?_)
  · skip
    exact aw_throw (k := 3) (i := 29) hC hl hout hcs rfl rfl kw883 kw23 thr3_138 (by decide) (by decide) (Nat.le_of_ble_eq_true rfl) dX9_line_14 dX9_line_17 dX9_line_18 dX9_line_20 dX9_line_23
  · skip
    refine aw_if_eq (pc := 4) (tgt := 14) hC dX9_line_4 (by decide) (fun _ => ?_) (fun _ => ?_)
    · skip
      exact aw_drop [0, 1, 2] (hJ14)
    · skip
      refine aw_iload_n (pc := 7) (i := 2) hC dX9_line_7 rfl rfl ?_
      refine aw_callSR (pc := 8) (As := [.int a2]) hC ms_X9_isRoom kw949 (by decide) (c_X9_isRoom G C.2.1   μ a2) rfl (Nat.le_of_ble_eq_true rfl) dX9_line_8 (fun q2 => ?_)
      refine aw_if_ne (pc := 11) (tgt := 24) hC dX9_line_11 (by decide) (fun _ => ?_) (fun _ => ?_)
      · skip
        exact aw_drop [0, 1, 2] (hJ14)
      · skip
        refine aw_iconst (pc := 24) (v := 1) hC dX9_line_24 ic1 ?_
        refine aw_iload_n (pc := 25) (i := 1) hC dX9_line_25 rfl rfl ?_
        refine aw_ishl (pc := 26) hC dX9_line_26 ?_
        refine aw_istore_n (pc := 27) (i := 3) hC dX9_line_27 rfl rfl (by decide) ?_
        refine aw_iconst (pc := 28) (v := 0) hC dX9_line_28 ic0 ?_
        refine aw_istore (pc := 29) hC dX9_line_29 rfl (by decide) ?_
        have hL31 : ∀ (n : Nat) (x3 : Int32) (x4 : Int32), AW G C (qX G C) 0 0 5 μ 31 [some (.ref (gad G 0 0)), none, some (.int a2), some (.int x3), some (.int x4)] [] (lp_X9_line_31 a2 μ n x3 x4) := by
          intro n
          induction n with
          | zero => intro x3 x4; exact aw_none
          | succ n ih =>
            intro x3 x4
            rw [lp_X9_line_31]
            refine aw_iload (pc := 31) hC dX9_line_31 rfl ?_
            refine aw_bipush (pc := 33) (v := 8) hC dX9_line_33 bc8 ?_
            refine aw_icmp_ge (pc := 35) (tgt := 66) hC dX9_line_35 (by decide) (fun _ => ?_) (fun _ => ?_)
            · skip
              refine aw_iconst (pc := 66) (v := (-1)) hC dX9_line_66 icm1 ?_
              exact aw_iretX hC dX9_line_67
            · skip
              refine aw_iload_n (pc := 38) (i := 3) hC dX9_line_38 rfl rfl ?_
              refine aw_iload_n (pc := 39) (i := 2) hC dX9_line_39 rfl rfl ?_
              refine aw_callSR (pc := 40) (As := [.int x3, .int a2]) hC ms_X9_holds kw415 (by decide) (c_X9_holds G C.2.1   μ x3 a2) rfl (Nat.le_of_ble_eq_true rfl) dX9_line_40 (fun q5 => ?_)
              refine aw_if_eq (pc := 43) (tgt := 49) hC dX9_line_43 (by decide) (fun _ => ?_) (fun _ => ?_)
              · skip
                refine aw_iload_n (pc := 49) (i := 3) hC dX9_line_49 rfl rfl ?_
                refine aw_aload_n (pc := 50) (i := 0) hC dX9_line_50 rfl rfl ?_
                refine aw_get (pc := 51) hC inX9 (v0 (j := 0) (by decide)) rfl rfl 4 (by decide) kw280 rfl rfl dX9_line_51 ?_
                refine aw_iload_n (pc := 54) (i := 3) hC dX9_line_54 rfl rfl ?_
                refine aw_callVR (pc := 55) (As := [.int x3]) hC mb_X2_holesFromAny kw1222 (by decide) (c_X2_holesFromAny G C.2.1 0 (by decide) μ x3) (vH (h := 0) (j := 0) (by decide) (by decide)) rfl rfl rfl (Nat.le_of_ble_eq_true rfl) dX9_line_55 (fun q6 => ?_)
                refine aw_ior (pc := 58) hC dX9_line_58 ?_
                refine aw_istore_n (pc := 59) (i := 3) hC dX9_line_59 rfl rfl (by decide) ?_
                refine aw_iinc (pc := 60) (v := x4 + 1) hC dX9_line_60 rfl (congrArg (HAdd.hAdd _) ic1) rfl (by decide) ?_
                refine aw_goto (pc := 63) (tgt := 31) hC dX9_line_63 (by decide) ?_
                exact ih (x3 ||| q6) (x4 + 1)
              · skip
                refine aw_iload (pc := 46) hC dX9_line_46 rfl ?_
                exact aw_iretX hC dX9_line_48
        exact aw_drop [1] (hL31 4096 (jshl 1 a1) 0)
theorem dX9_stepsRound_0 : decode cX9_stepsRound 0 = .ok (.aload_n 0, 1) := by decide +kernel
theorem dX9_stepsRound_1 : decode cX9_stepsRound 1 = .ok (.getfield 42, 3) := by decide +kernel
theorem dX9_stepsRound_4 : decode cX9_stepsRound 4 = .ok (.getfield 139, 3) := by decide +kernel
theorem dX9_stepsRound_7 : decode cX9_stepsRound 7 = .ok (.invokevirtual 322, 3) := by decide +kernel
theorem dX9_stepsRound_10 : decode cX9_stepsRound 10 = .ok (.istore 4, 2) := by decide +kernel
theorem dX9_stepsRound_12 : decode cX9_stepsRound 12 = .ok (.iconst 1, 1) := by decide +kernel
theorem dX9_stepsRound_13 : decode cX9_stepsRound 13 = .ok (.istore 5, 2) := by decide +kernel
theorem dX9_stepsRound_15 : decode cX9_stepsRound 15 = .ok (.iload 5, 2) := by decide +kernel
theorem dX9_stepsRound_17 : decode cX9_stepsRound 17 = .ok (.bipush 8, 2) := by decide +kernel
theorem dX9_stepsRound_19 : decode cX9_stepsRound 19 = .ok (.if_icmp .ge 43, 3) := by decide +kernel
theorem dX9_stepsRound_22 : decode cX9_stepsRound 22 = .ok (.iload_n 1, 1) := by decide +kernel
theorem dX9_stepsRound_23 : decode cX9_stepsRound 23 = .ok (.iload_n 3, 1) := by decide +kernel
theorem dX9_stepsRound_24 : decode cX9_stepsRound 24 = .ok (.iload 5, 2) := by decide +kernel
theorem dX9_stepsRound_26 : decode cX9_stepsRound 26 = .ok (.imul, 1) := by decide +kernel
theorem dX9_stepsRound_27 : decode cX9_stepsRound 27 = .ok (.iadd, 1) := by decide +kernel
theorem dX9_stepsRound_28 : decode cX9_stepsRound 28 = .ok (.bipush 8, 2) := by decide +kernel
theorem dX9_stepsRound_30 : decode cX9_stepsRound 30 = .ok (.invokestatic 387, 3) := by decide +kernel
theorem dX9_stepsRound_33 : decode cX9_stepsRound 33 = .ok (.istore 6, 2) := by decide +kernel
theorem dX9_stepsRound_35 : decode cX9_stepsRound 35 = .ok (.iload 4, 2) := by decide +kernel
theorem dX9_stepsRound_37 : decode cX9_stepsRound 37 = .ok (.iload 6, 2) := by decide +kernel
theorem dX9_stepsRound_39 : decode cX9_stepsRound 39 = .ok (.invokestatic 158, 3) := by decide +kernel
theorem dX9_stepsRound_42 : decode cX9_stepsRound 42 = .ok (.ifCond .eq 5, 3) := by decide +kernel
theorem dX9_stepsRound_45 : decode cX9_stepsRound 45 = .ok (.iconst (-1), 1) := by decide +kernel
theorem dX9_stepsRound_46 : decode cX9_stepsRound 46 = .ok (.ireturn, 1) := by decide +kernel
theorem dX9_stepsRound_47 : decode cX9_stepsRound 47 = .ok (.iload 6, 2) := by decide +kernel
theorem dX9_stepsRound_49 : decode cX9_stepsRound 49 = .ok (.iload_n 2, 1) := by decide +kernel
theorem dX9_stepsRound_50 : decode cX9_stepsRound 50 = .ok (.if_icmp .ne 6, 3) := by decide +kernel
theorem dX9_stepsRound_53 : decode cX9_stepsRound 53 = .ok (.iload 5, 2) := by decide +kernel
theorem dX9_stepsRound_55 : decode cX9_stepsRound 55 = .ok (.ireturn, 1) := by decide +kernel
theorem dX9_stepsRound_56 : decode cX9_stepsRound 56 = .ok (.iinc 5 1, 3) := by decide +kernel
theorem dX9_stepsRound_59 : decode cX9_stepsRound 59 = .ok (.goto (-44), 3) := by decide +kernel
theorem dX9_stepsRound_62 : decode cX9_stepsRound 62 = .ok (.iconst (-1), 1) := by decide +kernel
theorem dX9_stepsRound_63 : decode cX9_stepsRound 63 = .ok (.ireturn, 1) := by decide +kernel
def lp_X9_stepsRound_15 (a1 : Int32) (a2 : Int32) (a3 : Int32) (q1 : Int32) : Nat → Int32 → Option (Int32)
  | 0, _ => none
  | n + 1, x2 => if 8 ≤ x2 then (some (-1)) else ((f_J9_floorMod_7cf53 (a1 + (a3 * x2)) 8).bind fun (q3 : Int32) => (f_X9_holds q1 q3).bind fun (q4 : Int32) => if q4 = 0 then (if q3 = a2 then (some x2) else (lp_X9_stepsRound_15 a1 a2 a3 q1 n (x2 + 1))) else (some (-1)))
def f_X9_stepsRound (μ : Mem) (a1 : Int32) (a2 : Int32) (a3 : Int32) : Option (Int32) := (f_X1_roomsHere 0 μ).bind fun (q1 : Int32) => lp_X9_stepsRound_15 a1 a2 a3 q1 4096 1
set_option maxHeartbeats 4000000 in
set_option maxRecDepth 100000 in
theorem c_X9_stepsRound (G : GG) (l : Launch) (μ : Mem) (a1 : Int32) (a2 : Int32) (a3 : Int32) : CR G l yX9_stepsRound (.code yX9_stepsRound cX9_stepsRound 7 (some .int)) 4 [.ref (gad G 0 0), .int a1, .int a2, .int a3] μ (f_X9_stepsRound μ a1 a2 a3) := by
  refine CR.of (own := "SaturdayKeep") (L0 := [some (.ref (gad G 0 0)), some (.int a1), some (.int a2), some (.int a3), none, none, none]) rfl rfl rfl (Nat.le_of_ble_eq_true rfl) (fun C hl hC => ?_)
  subst hl
  delta f_X9_stepsRound
  refine aw_aload_n (pc := 0) (i := 0) hC dX9_stepsRound_0 rfl rfl ?_
  refine aw_get (pc := 1) hC inX9 (v0 (j := 0) (by decide)) rfl rfl 4 (by decide) kw280 rfl rfl dX9_stepsRound_1 ?_
  refine aw_get (pc := 4) hC inX2 (vH (h := 0) (j := 0) (by decide) (by decide)) rfl rfl 0 (by decide) kw186 rfl rfl dX9_stepsRound_4 ?_
  refine aw_callVR (pc := 7) (As := []) hC mb_X1_roomsHere kw443 (by decide) (c_X1_roomsHere G C.2.1 0 (by decide) μ ) (vH (h := 0) (j := 1) (by decide) (by decide)) rfl rfl rfl (Nat.le_of_ble_eq_true rfl) dX9_stepsRound_7 (fun q1 => ?_)
  refine aw_istore (pc := 10) hC dX9_stepsRound_10 rfl (by decide) ?_
  refine aw_iconst (pc := 12) (v := 1) hC dX9_stepsRound_12 ic1 ?_
  refine aw_istore (pc := 13) hC dX9_stepsRound_13 rfl (by decide) ?_
  have hL15 : ∀ (n : Nat) (x2 : Int32), AW G C (qR G C 0 0 μ) 0 0 7 μ 15 [none, some (.int a1), some (.int a2), some (.int a3), some (.int q1), some (.int x2), none] [] (lp_X9_stepsRound_15 a1 a2 a3 q1 n x2) := by
    intro n
    induction n with
    | zero => intro x2; exact aw_none
    | succ n ih =>
      intro x2
      rw [lp_X9_stepsRound_15]
      refine aw_iload (pc := 15) hC dX9_stepsRound_15 rfl ?_
      refine aw_bipush (pc := 17) (v := 8) hC dX9_stepsRound_17 bc8 ?_
      refine aw_icmp_ge (pc := 19) (tgt := 62) hC dX9_stepsRound_19 (by decide) (fun _ => ?_) (fun _ => ?_)
      · skip
        refine aw_iconst (pc := 62) (v := (-1)) hC dX9_stepsRound_62 icm1 ?_
        exact aw_iretR hC dX9_stepsRound_63
      · skip
        refine aw_iload_n (pc := 22) (i := 1) hC dX9_stepsRound_22 rfl rfl ?_
        refine aw_iload_n (pc := 23) (i := 3) hC dX9_stepsRound_23 rfl rfl ?_
        refine aw_iload (pc := 24) hC dX9_stepsRound_24 rfl ?_
        refine aw_imul (pc := 26) hC dX9_stepsRound_26 ?_
        refine aw_iadd (pc := 27) hC dX9_stepsRound_27 ?_
        refine aw_bipush (pc := 28) (v := 8) hC dX9_stepsRound_28 bc8 ?_
        refine aw_callSR (pc := 30) (As := [.int (a1 + (a3 * x2)), .int 8]) hC ms_J9_floorMod_7cf53 kw1237 (by decide) (c_J9_floorMod_7cf53 G C.2.1   μ (a1 + (a3 * x2)) 8) rfl (Nat.le_of_ble_eq_true rfl) dX9_stepsRound_30 (fun q3 => ?_)
        refine aw_istore (pc := 33) hC dX9_stepsRound_33 rfl (by decide) ?_
        refine aw_iload (pc := 35) hC dX9_stepsRound_35 rfl ?_
        refine aw_iload (pc := 37) hC dX9_stepsRound_37 rfl ?_
        refine aw_callSR (pc := 39) (As := [.int q1, .int q3]) hC ms_X9_holds kw415 (by decide) (c_X9_holds G C.2.1   μ q1 q3) rfl (Nat.le_of_ble_eq_true rfl) dX9_stepsRound_39 (fun q4 => ?_)
        refine aw_if_eq (pc := 42) (tgt := 47) hC dX9_stepsRound_42 (by decide) (fun _ => ?_) (fun _ => ?_)
        · skip
          refine aw_iload (pc := 47) hC dX9_stepsRound_47 rfl ?_
          refine aw_iload_n (pc := 49) (i := 2) hC dX9_stepsRound_49 rfl rfl ?_
          refine aw_icmp_ne (pc := 50) (tgt := 56) hC dX9_stepsRound_50 (by decide) (fun _ => ?_) (fun _ => ?_)
          · skip
            refine aw_iload (pc := 53) hC dX9_stepsRound_53 rfl ?_
            exact aw_iretR hC dX9_stepsRound_55
          · skip
            refine aw_iinc (pc := 56) (v := x2 + 1) hC dX9_stepsRound_56 rfl (congrArg (HAdd.hAdd _) ic1) rfl (by decide) ?_
            refine aw_goto (pc := 59) (tgt := 15) hC dX9_stepsRound_59 (by decide) ?_
            exact aw_drop [6] (ih (x2 + 1))
        · skip
          refine aw_iconst (pc := 45) (v := (-1)) hC dX9_stepsRound_45 icm1 ?_
          exact aw_iretR hC dX9_stepsRound_46
  exact aw_drop [0] (hL15 4096 1)
theorem dX9_pass_0 : decode cX9_pass 0 = .ok (.iload_n 1, 1) := by decide +kernel
theorem dX9_pass_1 : decode cX9_pass 1 = .ok (.invokestatic 185, 3) := by decide +kernel
theorem dX9_pass_4 : decode cX9_pass 4 = .ok (.ifCond .eq 10, 3) := by decide +kernel
theorem dX9_pass_7 : decode cX9_pass 7 = .ok (.iload_n 2, 1) := by decide +kernel
theorem dX9_pass_8 : decode cX9_pass 8 = .ok (.invokestatic 185, 3) := by decide +kernel
theorem dX9_pass_11 : decode cX9_pass 11 = .ok (.ifCond .ne 13, 3) := by decide +kernel
theorem dX9_pass_14 : decode cX9_pass 14 = .ok (.new 134, 3) := by decide +kernel
theorem dX9_pass_17 : decode cX9_pass 17 = .ok (.dup, 1) := by decide +kernel
theorem dX9_pass_18 : decode cX9_pass 18 = .ok (.ldc 188, 2) := by decide +kernel
theorem dX9_pass_20 : decode cX9_pass 20 = .ok (.invokespecial 138, 3) := by decide +kernel
theorem dX9_pass_23 : decode cX9_pass 23 = .ok (.athrow, 1) := by decide +kernel
theorem dX9_pass_24 : decode cX9_pass 24 = .ok (.iload_n 1, 1) := by decide +kernel
theorem dX9_pass_25 : decode cX9_pass 25 = .ok (.iload_n 2, 1) := by decide +kernel
theorem dX9_pass_26 : decode cX9_pass 26 = .ok (.if_icmp .ne 5, 3) := by decide +kernel
theorem dX9_pass_29 : decode cX9_pass 29 = .ok (.iconst 0, 1) := by decide +kernel
theorem dX9_pass_30 : decode cX9_pass 30 = .ok (.ireturn, 1) := by decide +kernel
theorem dX9_pass_31 : decode cX9_pass 31 = .ok (.aload_n 0, 1) := by decide +kernel
theorem dX9_pass_32 : decode cX9_pass 32 = .ok (.iload_n 1, 1) := by decide +kernel
theorem dX9_pass_33 : decode cX9_pass 33 = .ok (.iload_n 2, 1) := by decide +kernel
theorem dX9_pass_34 : decode cX9_pass 34 = .ok (.iconst 1, 1) := by decide +kernel
theorem dX9_pass_35 : decode cX9_pass 35 = .ok (.invokevirtual 384, 3) := by decide +kernel
theorem dX9_pass_38 : decode cX9_pass 38 = .ok (.istore_n 3, 1) := by decide +kernel
theorem dX9_pass_39 : decode cX9_pass 39 = .ok (.aload_n 0, 1) := by decide +kernel
theorem dX9_pass_40 : decode cX9_pass 40 = .ok (.iload_n 1, 1) := by decide +kernel
theorem dX9_pass_41 : decode cX9_pass 41 = .ok (.iload_n 2, 1) := by decide +kernel
theorem dX9_pass_42 : decode cX9_pass 42 = .ok (.iconst (-1), 1) := by decide +kernel
theorem dX9_pass_43 : decode cX9_pass 43 = .ok (.invokevirtual 384, 3) := by decide +kernel
theorem dX9_pass_46 : decode cX9_pass 46 = .ok (.istore 4, 2) := by decide +kernel
theorem dX9_pass_48 : decode cX9_pass 48 = .ok (.iload_n 3, 1) := by decide +kernel
theorem dX9_pass_49 : decode cX9_pass 49 = .ok (.iconst (-1), 1) := by decide +kernel
theorem dX9_pass_50 : decode cX9_pass 50 = .ok (.if_icmp .eq 9, 3) := by decide +kernel
theorem dX9_pass_53 : decode cX9_pass 53 = .ok (.iload 4, 2) := by decide +kernel
theorem dX9_pass_55 : decode cX9_pass 55 = .ok (.iconst (-1), 1) := by decide +kernel
theorem dX9_pass_56 : decode cX9_pass 56 = .ok (.if_icmp .ne 10, 3) := by decide +kernel
theorem dX9_pass_59 : decode cX9_pass 59 = .ok (.iload_n 3, 1) := by decide +kernel
theorem dX9_pass_60 : decode cX9_pass 60 = .ok (.iload 4, 2) := by decide +kernel
theorem dX9_pass_62 : decode cX9_pass 62 = .ok (.invokestatic 300, 3) := by decide +kernel
theorem dX9_pass_65 : decode cX9_pass 65 = .ok (.ireturn, 1) := by decide +kernel
theorem dX9_pass_66 : decode cX9_pass 66 = .ok (.iload_n 3, 1) := by decide +kernel
theorem dX9_pass_67 : decode cX9_pass 67 = .ok (.iload 4, 2) := by decide +kernel
theorem dX9_pass_69 : decode cX9_pass 69 = .ok (.invokestatic 255, 3) := by decide +kernel
theorem dX9_pass_72 : decode cX9_pass 72 = .ok (.ireturn, 1) := by decide +kernel
def f_X9_pass (μ : Mem) (a1 : Int32) (a2 : Int32) : Option (Nat × Int32 × Mem) := (f_X9_isRoom a1).bind fun (q1 : Int32) => nm (some (3, 0, μ)) fun (J14 : Option (Nat × Int32 × Mem)) => if q1 = 0 then (J14) else ((f_X9_isRoom a2).bind fun (q2 : Int32) => if q2 = 0 then (J14) else (if a1 = a2 then (some (0, 0, μ)) else ((f_X9_stepsRound μ a1 a2 1).bind fun (q3 : Int32) => (f_X9_stepsRound μ a1 a2 (-1)).bind fun (q4 : Int32) => nm (some (0, (jmax q3 q4), μ)) fun (J59 : Option (Nat × Int32 × Mem)) => if q3 = (-1) then (J59) else (if q4 = (-1) then (J59) else (some (0, (jmin q3 q4), μ))))))
set_option maxHeartbeats 4000000 in
set_option maxRecDepth 100000 in
theorem c_X9_pass (G : GG) (l : Launch) (hl0 : l.stackTraces = false) (μ : Mem) (a1 : Int32) (a2 : Int32) : CXT G l yX9_pass (.code yX9_pass cX9_pass 5 (some .int)) 5 [.ref (gad G 0 0), .int a1, .int a2] μ (f_X9_pass μ a1 a2) := by
  refine CXT.of (own := "SaturdayKeep") (L0 := [some (.ref (gad G 0 0)), some (.int a1), some (.int a2), none, none]) hl0 rfl rfl rfl (Nat.le_of_ble_eq_true rfl) (fun C hl1 hl hout hcs hC => ?_)
  subst hl1
  delta f_X9_pass
  refine aw_iload_n (pc := 0) (i := 1) hC dX9_pass_0 rfl rfl ?_
  refine aw_callSR (pc := 1) (As := [.int a1]) hC ms_X9_isRoom kw949 (by decide) (c_X9_isRoom G C.2.1   μ a1) rfl (Nat.le_of_ble_eq_true rfl) dX9_pass_1 (fun q1 => ?_)
  refine aw_nmJ (fun (J14 : Option (Nat × Int32 × Mem)) => AW G C (qX G C) 0 0 5 μ 14 [none, none, none, none, none] [] (J14)) ?_ (fun J14 hJ14 => ?_)
  · skip
    exact aw_throw (k := 3) (i := 29) hC hl hout hcs rfl rfl kw883 kw23 thr3_138 (by decide) (by decide) (Nat.le_of_ble_eq_true rfl) dX9_pass_14 dX9_pass_17 dX9_pass_18 dX9_pass_20 dX9_pass_23
  · skip
    refine aw_if_eq (pc := 4) (tgt := 14) hC dX9_pass_4 (by decide) (fun _ => ?_) (fun _ => ?_)
    · skip
      exact aw_drop [0, 1, 2] (hJ14)
    · skip
      refine aw_iload_n (pc := 7) (i := 2) hC dX9_pass_7 rfl rfl ?_
      refine aw_callSR (pc := 8) (As := [.int a2]) hC ms_X9_isRoom kw949 (by decide) (c_X9_isRoom G C.2.1   μ a2) rfl (Nat.le_of_ble_eq_true rfl) dX9_pass_8 (fun q2 => ?_)
      refine aw_if_ne (pc := 11) (tgt := 24) hC dX9_pass_11 (by decide) (fun _ => ?_) (fun _ => ?_)
      · skip
        exact aw_drop [0, 1, 2] (hJ14)
      · skip
        refine aw_iload_n (pc := 24) (i := 1) hC dX9_pass_24 rfl rfl ?_
        refine aw_iload_n (pc := 25) (i := 2) hC dX9_pass_25 rfl rfl ?_
        refine aw_icmp_ne (pc := 26) (tgt := 31) hC dX9_pass_26 (by decide) (fun _ => ?_) (fun _ => ?_)
        · skip
          refine aw_iconst (pc := 29) (v := 0) hC dX9_pass_29 ic0 ?_
          exact aw_iretX hC dX9_pass_30
        · skip
          refine aw_aload_n (pc := 31) (i := 0) hC dX9_pass_31 rfl rfl ?_
          refine aw_iload_n (pc := 32) (i := 1) hC dX9_pass_32 rfl rfl ?_
          refine aw_iload_n (pc := 33) (i := 2) hC dX9_pass_33 rfl rfl ?_
          refine aw_iconst (pc := 34) (v := 1) hC dX9_pass_34 ic1 ?_
          refine aw_callVR (pc := 35) (As := [.int a1, .int a2, .int 1]) hC mb_X9_stepsRound kw1233 (by decide) (c_X9_stepsRound G C.2.1   μ a1 a2 1) (v0 (j := 0) (by decide)) rfl rfl rfl (Nat.le_of_ble_eq_true rfl) dX9_pass_35 (fun q3 => ?_)
          refine aw_istore_n (pc := 38) (i := 3) hC dX9_pass_38 rfl rfl (by decide) ?_
          refine aw_aload_n (pc := 39) (i := 0) hC dX9_pass_39 rfl rfl ?_
          refine aw_iload_n (pc := 40) (i := 1) hC dX9_pass_40 rfl rfl ?_
          refine aw_iload_n (pc := 41) (i := 2) hC dX9_pass_41 rfl rfl ?_
          refine aw_iconst (pc := 42) (v := (-1)) hC dX9_pass_42 icm1 ?_
          refine aw_callVR (pc := 43) (As := [.int a1, .int a2, .int (-1)]) hC mb_X9_stepsRound kw1233 (by decide) (c_X9_stepsRound G C.2.1   μ a1 a2 (-1)) (v0 (j := 0) (by decide)) rfl rfl rfl (Nat.le_of_ble_eq_true rfl) dX9_pass_43 (fun q4 => ?_)
          refine aw_istore (pc := 46) hC dX9_pass_46 rfl (by decide) ?_
          refine aw_iload_n (pc := 48) (i := 3) hC dX9_pass_48 rfl rfl ?_
          refine aw_iconst (pc := 49) (v := (-1)) hC dX9_pass_49 icm1 ?_
          refine aw_nmJ (fun (J59 : Option (Nat × Int32 × Mem)) => AW G C (qX G C) 0 0 5 μ 59 [none, none, none, some (.int q3), some (.int q4)] [] (J59)) ?_ (fun J59 hJ59 => ?_)
          · skip
            refine aw_iload_n (pc := 59) (i := 3) hC dX9_pass_59 rfl rfl ?_
            refine aw_iload (pc := 60) hC dX9_pass_60 rfl ?_
            refine aw_mmax (pc := 62) hC kw1190 kw370 kw12 kw371 (by decide) (Nat.le_of_ble_eq_true rfl) dX9_pass_62 ?_
            exact aw_iretX hC dX9_pass_65
          · skip
            refine aw_icmp_eq (pc := 50) (tgt := 59) hC dX9_pass_50 (by decide) (fun _ => ?_) (fun _ => ?_)
            · skip
              exact aw_drop [0, 1, 2] (hJ59)
            · skip
              refine aw_iload (pc := 53) hC dX9_pass_53 rfl ?_
              refine aw_iconst (pc := 55) (v := (-1)) hC dX9_pass_55 icm1 ?_
              refine aw_icmp_ne (pc := 56) (tgt := 66) hC dX9_pass_56 (by decide) (fun _ => ?_) (fun _ => ?_)
              · skip
                exact aw_drop [0, 1, 2] (hJ59)
              · skip
                refine aw_iload_n (pc := 66) (i := 3) hC dX9_pass_66 rfl rfl ?_
                refine aw_iload (pc := 67) hC dX9_pass_67 rfl ?_
                refine aw_mmin (pc := 69) hC kw516 kw367 kw12 kw368 (by decide) (Nat.le_of_ble_eq_true rfl) dX9_pass_69 ?_
                exact aw_iretX hC dX9_pass_72
theorem dX9_agree_0 : decode cX9_agree 0 = .ok (.iload_n 1, 1) := by decide +kernel
theorem dX9_agree_1 : decode cX9_agree 1 = .ok (.invokestatic 276, 3) := by decide +kernel
theorem dX9_agree_4 : decode cX9_agree 4 = .ok (.ifCond .ne 14, 3) := by decide +kernel
theorem dX9_agree_7 : decode cX9_agree 7 = .ok (.new 93, 3) := by decide +kernel
theorem dX9_agree_10 : decode cX9_agree 10 = .ok (.dup, 1) := by decide +kernel
theorem dX9_agree_11 : decode cX9_agree 11 = .ok (.ldc_w 264, 3) := by decide +kernel
theorem dX9_agree_14 : decode cX9_agree 14 = .ok (.invokespecial 97, 3) := by decide +kernel
theorem dX9_agree_17 : decode cX9_agree 17 = .ok (.athrow, 1) := by decide +kernel
theorem dX9_agree_18 : decode cX9_agree 18 = .ok (.iconst 0, 1) := by decide +kernel
theorem dX9_agree_19 : decode cX9_agree 19 = .ok (.istore_n 2, 1) := by decide +kernel
theorem dX9_agree_20 : decode cX9_agree 20 = .ok (.iconst 0, 1) := by decide +kernel
theorem dX9_agree_21 : decode cX9_agree 21 = .ok (.istore_n 3, 1) := by decide +kernel
theorem dX9_agree_22 : decode cX9_agree 22 = .ok (.iload_n 3, 1) := by decide +kernel
theorem dX9_agree_23 : decode cX9_agree 23 = .ok (.iload_n 1, 1) := by decide +kernel
theorem dX9_agree_24 : decode cX9_agree 24 = .ok (.if_icmp .ge 24, 3) := by decide +kernel
theorem dX9_agree_27 : decode cX9_agree 27 = .ok (.aload_n 0, 1) := by decide +kernel
theorem dX9_agree_28 : decode cX9_agree 28 = .ok (.getfield 42, 3) := by decide +kernel
theorem dX9_agree_31 : decode cX9_agree 31 = .ok (.iload_n 3, 1) := by decide +kernel
theorem dX9_agree_32 : decode cX9_agree 32 = .ok (.invokevirtual 287, 3) := by decide +kernel
theorem dX9_agree_35 : decode cX9_agree 35 = .ok (.iconst 1, 1) := by decide +kernel
theorem dX9_agree_36 : decode cX9_agree 36 = .ok (.if_icmp .eq 6, 3) := by decide +kernel
theorem dX9_agree_39 : decode cX9_agree 39 = .ok (.iinc 2 1, 3) := by decide +kernel
theorem dX9_agree_42 : decode cX9_agree 42 = .ok (.iinc 3 1, 3) := by decide +kernel
theorem dX9_agree_45 : decode cX9_agree 45 = .ok (.goto (-23), 3) := by decide +kernel
theorem dX9_agree_48 : decode cX9_agree 48 = .ok (.iload_n 2, 1) := by decide +kernel
theorem dX9_agree_49 : decode cX9_agree 49 = .ok (.ireturn, 1) := by decide +kernel
def lp_X9_agree_22 (a1 : Int32) (μ : Mem) : Nat → Int32 → Int32 → Option (Nat × Int32 × Mem)
  | 0, _, _ => none
  | n + 1, x2, x3 => if a1 ≤ x3 then (some (0, x2, μ)) else ((f_X2_saturdaysAt 0 μ x3).bind fun (q4 : Int32) => if q4 = 1 then (lp_X9_agree_22 a1 μ n x2 (x3 + 1)) else (lp_X9_agree_22 a1 μ n (x2 + 1) (x3 + 1)))
def f_X9_agree (μ : Mem) (a1 : Int32) : Option (Nat × Int32 × Mem) := (f_X9_isFar a1).bind fun (q1 : Int32) => if q1 = 0 then (some (1, 0, μ)) else (lp_X9_agree_22 a1 μ 4096 0 0)
set_option maxHeartbeats 4000000 in
set_option maxRecDepth 100000 in
theorem c_X9_agree (G : GG) (l : Launch) (hl0 : l.stackTraces = false) (μ : Mem) (a1 : Int32) : CXT G l yX9_agree (.code yX9_agree cX9_agree 4 (some .int)) 5 [.ref (gad G 0 0), .int a1] μ (f_X9_agree μ a1) := by
  refine CXT.of (own := "SaturdayKeep") (L0 := [some (.ref (gad G 0 0)), some (.int a1), none, none]) hl0 rfl rfl rfl (Nat.le_of_ble_eq_true rfl) (fun C hl1 hl hout hcs hC => ?_)
  subst hl1
  delta f_X9_agree
  refine aw_iload_n (pc := 0) (i := 1) hC dX9_agree_0 rfl rfl ?_
  refine aw_callSR (pc := 1) (As := [.int a1]) hC ms_X9_isFar kw1110 (by decide) (c_X9_isFar G C.2.1   μ a1) rfl (Nat.le_of_ble_eq_true rfl) dX9_agree_1 (fun q1 => ?_)
  refine aw_if_ne (pc := 4) (tgt := 18) hC dX9_agree_4 (by decide) (fun _ => ?_) (fun _ => ?_)
  · skip
    exact aw_throwW (k := 1) (i := 37) hC hl hout hcs rfl rfl kw745 kw21 thr1_97 (by decide) (by decide) (Nat.le_of_ble_eq_true rfl) dX9_agree_7 dX9_agree_10 dX9_agree_11 dX9_agree_14 dX9_agree_17
  · skip
    refine aw_iconst (pc := 18) (v := 0) hC dX9_agree_18 ic0 ?_
    refine aw_istore_n (pc := 19) (i := 2) hC dX9_agree_19 rfl rfl (by decide) ?_
    refine aw_iconst (pc := 20) (v := 0) hC dX9_agree_20 ic0 ?_
    refine aw_istore_n (pc := 21) (i := 3) hC dX9_agree_21 rfl rfl (by decide) ?_
    have hL22 : ∀ (n : Nat) (x2 : Int32) (x3 : Int32), AW G C (qX G C) 0 0 4 μ 22 [some (.ref (gad G 0 0)), some (.int a1), some (.int x2), some (.int x3)] [] (lp_X9_agree_22 a1 μ n x2 x3) := by
      intro n
      induction n with
      | zero => intro x2 x3; exact aw_none
      | succ n ih =>
        intro x2 x3
        rw [lp_X9_agree_22]
        refine aw_iload_n (pc := 22) (i := 3) hC dX9_agree_22 rfl rfl ?_
        refine aw_iload_n (pc := 23) (i := 1) hC dX9_agree_23 rfl rfl ?_
        refine aw_icmp_ge (pc := 24) (tgt := 48) hC dX9_agree_24 (by decide) (fun _ => ?_) (fun _ => ?_)
        · skip
          refine aw_iload_n (pc := 48) (i := 2) hC dX9_agree_48 rfl rfl ?_
          exact aw_iretX hC dX9_agree_49
        · skip
          refine aw_aload_n (pc := 27) (i := 0) hC dX9_agree_27 rfl rfl ?_
          refine aw_get (pc := 28) hC inX9 (v0 (j := 0) (by decide)) rfl rfl 4 (by decide) kw280 rfl rfl dX9_agree_28 ?_
          refine aw_iload_n (pc := 31) (i := 3) hC dX9_agree_31 rfl rfl ?_
          refine aw_callVR (pc := 32) (As := [.int x3]) hC mb_X2_saturdaysAt kw330 (by decide) (c_X2_saturdaysAt G C.2.1 0 (by decide) μ x3) (vH (h := 0) (j := 0) (by decide) (by decide)) rfl rfl rfl (Nat.le_of_ble_eq_true rfl) dX9_agree_32 (fun q4 => ?_)
          refine aw_iconst (pc := 35) (v := 1) hC dX9_agree_35 ic1 ?_
          refine aw_icmp_eq (pc := 36) (tgt := 42) hC dX9_agree_36 (by decide) (fun _ => ?_) (fun _ => ?_)
          · skip
            refine aw_iinc (pc := 42) (v := x3 + 1) hC dX9_agree_42 rfl (congrArg (HAdd.hAdd _) ic1) rfl (by decide) ?_
            refine aw_goto (pc := 45) (tgt := 22) hC dX9_agree_45 (by decide) ?_
            exact ih x2 (x3 + 1)
          · skip
            refine aw_iinc (pc := 39) (v := x2 + 1) hC dX9_agree_39 rfl (congrArg (HAdd.hAdd _) ic1) rfl (by decide) ?_
            refine aw_iinc (pc := 42) (v := x3 + 1) hC dX9_agree_42 rfl (congrArg (HAdd.hAdd _) ic1) rfl (by decide) ?_
            refine aw_goto (pc := 45) (tgt := 22) hC dX9_agree_45 (by decide) ?_
            exact ih (x2 + 1) (x3 + 1)
    exact hL22 4096 0 0
theorem dX9_need_0 : decode cX9_need 0 = .ok (.iload_n 1, 1) := by decide +kernel
theorem dX9_need_1 : decode cX9_need 1 = .ok (.invokestatic 295, 3) := by decide +kernel
theorem dX9_need_4 : decode cX9_need 4 = .ok (.ifCond .ne 14, 3) := by decide +kernel
theorem dX9_need_7 : decode cX9_need 7 = .ok (.new 93, 3) := by decide +kernel
theorem dX9_need_10 : decode cX9_need 10 = .ok (.dup, 1) := by decide +kernel
theorem dX9_need_11 : decode cX9_need 11 = .ok (.ldc_w 298, 3) := by decide +kernel
theorem dX9_need_14 : decode cX9_need 14 = .ok (.invokespecial 97, 3) := by decide +kernel
theorem dX9_need_17 : decode cX9_need 17 = .ok (.athrow, 1) := by decide +kernel
theorem dX9_need_18 : decode cX9_need 18 = .ok (.iconst 0, 1) := by decide +kernel
theorem dX9_need_19 : decode cX9_need 19 = .ok (.iload_n 1, 1) := by decide +kernel
theorem dX9_need_20 : decode cX9_need 20 = .ok (.aload_n 0, 1) := by decide +kernel
theorem dX9_need_21 : decode cX9_need 21 = .ok (.getfield 42, 3) := by decide +kernel
theorem dX9_need_24 : decode cX9_need 24 = .ok (.getfield 284, 3) := by decide +kernel
theorem dX9_need_27 : decode cX9_need 27 = .ok (.isub, 1) := by decide +kernel
theorem dX9_need_28 : decode cX9_need 28 = .ok (.aload_n 0, 1) := by decide +kernel
theorem dX9_need_29 : decode cX9_need 29 = .ok (.getfield 42, 3) := by decide +kernel
theorem dX9_need_32 : decode cX9_need 32 = .ok (.getfield 252, 3) := by decide +kernel
theorem dX9_need_35 : decode cX9_need 35 = .ok (.isub, 1) := by decide +kernel
theorem dX9_need_36 : decode cX9_need 36 = .ok (.invokestatic 300, 3) := by decide +kernel
theorem dX9_need_39 : decode cX9_need 39 = .ok (.ireturn, 1) := by decide +kernel
def f_X9_need (μ : Mem) (a1 : Int32) : Option (Nat × Int32 × Mem) := (f_X9_isTowers a1).bind fun (q1 : Int32) => if q1 = 0 then (some (1, 0, μ)) else (some (0, (jmax 0 ((a1 - (μ 1 0 11)) - (μ 1 0 10))), μ))
set_option maxHeartbeats 4000000 in
set_option maxRecDepth 100000 in
theorem c_X9_need (G : GG) (l : Launch) (hl0 : l.stackTraces = false) (μ : Mem) (a1 : Int32) : CXT G l yX9_need (.code yX9_need cX9_need 2 (some .int)) 5 [.ref (gad G 0 0), .int a1] μ (f_X9_need μ a1) := by
  refine CXT.of (own := "SaturdayKeep") (L0 := [some (.ref (gad G 0 0)), some (.int a1)]) hl0 rfl rfl rfl (Nat.le_of_ble_eq_true rfl) (fun C hl1 hl hout hcs hC => ?_)
  subst hl1
  delta f_X9_need
  refine aw_iload_n (pc := 0) (i := 1) hC dX9_need_0 rfl rfl ?_
  refine aw_callSR (pc := 1) (As := [.int a1]) hC ms_X9_isTowers kw1140 (by decide) (c_X9_isTowers G C.2.1   μ a1) rfl (Nat.le_of_ble_eq_true rfl) dX9_need_1 (fun q1 => ?_)
  refine aw_if_ne (pc := 4) (tgt := 18) hC dX9_need_4 (by decide) (fun _ => ?_) (fun _ => ?_)
  · skip
    exact aw_throwW (k := 1) (i := 40) hC hl hout hcs rfl rfl kw745 kw21 thr1_97 (by decide) (by decide) (Nat.le_of_ble_eq_true rfl) dX9_need_7 dX9_need_10 dX9_need_11 dX9_need_14 dX9_need_17
  · skip
    refine aw_iconst (pc := 18) (v := 0) hC dX9_need_18 ic0 ?_
    refine aw_iload_n (pc := 19) (i := 1) hC dX9_need_19 rfl rfl ?_
    refine aw_aload_n (pc := 20) (i := 0) hC dX9_need_20 rfl rfl ?_
    refine aw_get (pc := 21) hC inX9 (v0 (j := 0) (by decide)) rfl rfl 4 (by decide) kw280 rfl rfl dX9_need_21 ?_
    refine aw_get (pc := 24) hC inX2 (vH (h := 0) (j := 0) (by decide) (by decide)) rfl rfl 11 (by decide) kw208 rfl rfl dX9_need_24 ?_
    refine aw_isub (pc := 27) hC dX9_need_27 ?_
    refine aw_aload_n (pc := 28) (i := 0) hC dX9_need_28 rfl rfl ?_
    refine aw_get (pc := 29) hC inX9 (v0 (j := 0) (by decide)) rfl rfl 4 (by decide) kw280 rfl rfl dX9_need_29 ?_
    refine aw_get (pc := 32) hC inX2 (vH (h := 0) (j := 0) (by decide) (by decide)) rfl rfl 10 (by decide) kw206 rfl rfl dX9_need_32 ?_
    refine aw_isub (pc := 35) hC dX9_need_35 ?_
    refine aw_mmax (pc := 36) hC kw1190 kw370 kw12 kw371 (by decide) (Nat.le_of_ble_eq_true rfl) dX9_need_36 ?_
    exact aw_iretX hC dX9_need_39
theorem dX9_spread_0 : decode cX9_spread 0 = .ok (.iload_n 1, 1) := by decide +kernel
theorem dX9_spread_1 : decode cX9_spread 1 = .ok (.invokestatic 276, 3) := by decide +kernel
theorem dX9_spread_4 : decode cX9_spread 4 = .ok (.ifCond .ne 14, 3) := by decide +kernel
theorem dX9_spread_7 : decode cX9_spread 7 = .ok (.new 93, 3) := by decide +kernel
theorem dX9_spread_10 : decode cX9_spread 10 = .ok (.dup, 1) := by decide +kernel
theorem dX9_spread_11 : decode cX9_spread 11 = .ok (.ldc_w 264, 3) := by decide +kernel
theorem dX9_spread_14 : decode cX9_spread 14 = .ok (.invokespecial 97, 3) := by decide +kernel
theorem dX9_spread_17 : decode cX9_spread 17 = .ok (.athrow, 1) := by decide +kernel
theorem dX9_spread_18 : decode cX9_spread 18 = .ok (.aload_n 0, 1) := by decide +kernel
theorem dX9_spread_19 : decode cX9_spread 19 = .ok (.getfield 46, 3) := by decide +kernel
theorem dX9_spread_22 : decode cX9_spread 22 = .ok (.aload_n 0, 1) := by decide +kernel
theorem dX9_spread_23 : decode cX9_spread 23 = .ok (.getfield 42, 3) := by decide +kernel
theorem dX9_spread_26 : decode cX9_spread 26 = .ok (.invokevirtual 82, 3) := by decide +kernel
theorem dX9_spread_29 : decode cX9_spread 29 = .ok (.iconst 0, 1) := by decide +kernel
theorem dX9_spread_30 : decode cX9_spread 30 = .ok (.istore_n 2, 1) := by decide +kernel
theorem dX9_spread_31 : decode cX9_spread 31 = .ok (.iload_n 2, 1) := by decide +kernel
theorem dX9_spread_32 : decode cX9_spread 32 = .ok (.iload_n 1, 1) := by decide +kernel
theorem dX9_spread_33 : decode cX9_spread 33 = .ok (.if_icmp .ge 26, 3) := by decide +kernel
theorem dX9_spread_36 : decode cX9_spread 36 = .ok (.aload_n 0, 1) := by decide +kernel
theorem dX9_spread_37 : decode cX9_spread 37 = .ok (.getfield 46, 3) := by decide +kernel
theorem dX9_spread_40 : decode cX9_spread 40 = .ok (.aload_n 0, 1) := by decide +kernel
theorem dX9_spread_41 : decode cX9_spread 41 = .ok (.getfield 46, 3) := by decide +kernel
theorem dX9_spread_44 : decode cX9_spread 44 = .ok (.getfield 139, 3) := by decide +kernel
theorem dX9_spread_47 : decode cX9_spread 47 = .ok (.getfield 162, 3) := by decide +kernel
theorem dX9_spread_50 : decode cX9_spread 50 = .ok (.invokevirtual 281, 3) := by decide +kernel
theorem dX9_spread_53 : decode cX9_spread 53 = .ok (.iinc 2 1, 3) := by decide +kernel
theorem dX9_spread_56 : decode cX9_spread 56 = .ok (.goto (-25), 3) := by decide +kernel
theorem dX9_spread_59 : decode cX9_spread 59 = .ok (.aload_n 0, 1) := by decide +kernel
theorem dX9_spread_60 : decode cX9_spread 60 = .ok (.getfield 46, 3) := by decide +kernel
theorem dX9_spread_63 : decode cX9_spread 63 = .ok (.getfield 139, 3) := by decide +kernel
theorem dX9_spread_66 : decode cX9_spread 66 = .ok (.invokevirtual 303, 3) := by decide +kernel
theorem dX9_spread_69 : decode cX9_spread 69 = .ok (.ireturn, 1) := by decide +kernel
def lp_X9_spread_31 (a1 : Int32) (k59 : Mem → Option (Nat × Int32 × Mem)) : Nat → Int32 → Mem → Option (Nat × Int32 × Mem)
  | 0, _, _ => none
  | n + 1, x4, μ5 => if a1 ≤ x4 then (k59 μ5) else ((f_X2_foreseeDay 1 μ5 (μ5 2 1 5)).bind fun (q6 : Mem) => lp_X9_spread_31 a1 k59 n (x4 + 1) q6)
def f_X9_spread (μ : Mem) (a1 : Int32) : Option (Nat × Int32 × Mem) := (f_X9_isFar a1).bind fun (q1 : Int32) => if q1 = 0 then (some (1, 0, μ)) else ((f_X2_copy 1 0 μ).bind fun (q2 : Mem) => lp_X9_spread_31 a1 (fun (μ3 : Mem) => (f_X1_spreadHere 1 μ3).bind fun (q7 : Int32) => some (0, q7, μ3)) 4096 0 q2)
set_option maxHeartbeats 4000000 in
set_option maxRecDepth 100000 in
theorem c_X9_spread (G : GG) (l : Launch) (hl0 : l.stackTraces = false) (μ : Mem) (a1 : Int32) : CXT G l yX9_spread (.code yX9_spread cX9_spread 3 (some .int)) 6 [.ref (gad G 0 0), .int a1] μ (f_X9_spread μ a1) := by
  refine CXT.of (own := "SaturdayKeep") (L0 := [some (.ref (gad G 0 0)), some (.int a1), none]) hl0 rfl rfl rfl (Nat.le_of_ble_eq_true rfl) (fun C hl1 hl hout hcs hC => ?_)
  subst hl1
  delta f_X9_spread
  refine aw_iload_n (pc := 0) (i := 1) hC dX9_spread_0 rfl rfl ?_
  refine aw_callSR (pc := 1) (As := [.int a1]) hC ms_X9_isFar kw1110 (by decide) (c_X9_isFar G C.2.1   μ a1) rfl (Nat.le_of_ble_eq_true rfl) dX9_spread_1 (fun q1 => ?_)
  refine aw_if_ne (pc := 4) (tgt := 18) hC dX9_spread_4 (by decide) (fun _ => ?_) (fun _ => ?_)
  · skip
    exact aw_throwW (k := 1) (i := 37) hC hl hout hcs rfl rfl kw745 kw21 thr1_97 (by decide) (by decide) (Nat.le_of_ble_eq_true rfl) dX9_spread_7 dX9_spread_10 dX9_spread_11 dX9_spread_14 dX9_spread_17
  · skip
    refine aw_aload_n (pc := 18) (i := 0) hC dX9_spread_18 rfl rfl ?_
    refine aw_get (pc := 19) hC inX9 (v0 (j := 0) (by decide)) rfl rfl 5 (by decide) kw281 rfl rfl dX9_spread_19 ?_
    refine aw_aload_n (pc := 22) (i := 0) hC dX9_spread_22 rfl rfl ?_
    refine aw_get (pc := 23) hC inX9 (v0 (j := 0) (by decide)) rfl rfl 4 (by decide) kw280 rfl rfl dX9_spread_23 ?_
    refine aw_callVV (pc := 26) (As := [.ref (gad G 1 0)]) hC mb_X2_copy kw346 (by decide) (c_X2_copy G C.2.1 1 0 (by decide) (by decide) μ ) (vH (h := 1) (j := 0) (by decide) (by decide)) rfl rfl rfl (Nat.le_of_ble_eq_true rfl) dX9_spread_26 (fun q2 => ?_)
    refine aw_iconst (pc := 29) (v := 0) hC dX9_spread_29 ic0 ?_
    refine aw_istore_n (pc := 30) (i := 2) hC dX9_spread_30 rfl rfl (by decide) ?_
    have hL31 : ∀ (k59 : Mem → Option (Nat × Int32 × Mem)) (hk59 : ∀ (μ3 : Mem), AW G C (qX G C) 0 0 3 μ3 59 [some (.ref (gad G 0 0)), none, none] [] (k59 μ3)) (n : Nat) (x4 : Int32) (μ5 : Mem), AW G C (qX G C) 0 0 3 μ5 31 [some (.ref (gad G 0 0)), some (.int a1), some (.int x4)] [] (lp_X9_spread_31 a1 k59 n x4 μ5) := by
      intro k59 hk59 n
      induction n with
      | zero => intro x4 μ5; exact aw_none
      | succ n ih =>
        intro x4 μ5
        rw [lp_X9_spread_31]
        refine aw_iload_n (pc := 31) (i := 2) hC dX9_spread_31 rfl rfl ?_
        refine aw_iload_n (pc := 32) (i := 1) hC dX9_spread_32 rfl rfl ?_
        refine aw_icmp_ge (pc := 33) (tgt := 59) hC dX9_spread_33 (by decide) (fun _ => ?_) (fun _ => ?_)
        · skip
          exact aw_drop [1, 2] (hk59 μ5)
        · skip
          refine aw_aload_n (pc := 36) (i := 0) hC dX9_spread_36 rfl rfl ?_
          refine aw_get (pc := 37) hC inX9 (v0 (j := 0) (by decide)) rfl rfl 5 (by decide) kw281 rfl rfl dX9_spread_37 ?_
          refine aw_aload_n (pc := 40) (i := 0) hC dX9_spread_40 rfl rfl ?_
          refine aw_get (pc := 41) hC inX9 (v0 (j := 0) (by decide)) rfl rfl 5 (by decide) kw281 rfl rfl dX9_spread_41 ?_
          refine aw_get (pc := 44) hC inX2 (vH (h := 1) (j := 0) (by decide) (by decide)) rfl rfl 0 (by decide) kw186 rfl rfl dX9_spread_44 ?_
          refine aw_get (pc := 47) hC inX1 (vH (h := 1) (j := 1) (by decide) (by decide)) rfl rfl 5 (by decide) kw150 rfl rfl dX9_spread_47 ?_
          refine aw_callVV (pc := 50) (As := [.int (μ5 2 1 5)]) hC mb_X2_foreseeDay kw1114 (by decide) (c_X2_foreseeDay G C.2.1 1 (by decide) μ5 (μ5 2 1 5)) (vH (h := 1) (j := 0) (by decide) (by decide)) rfl rfl rfl (Nat.le_of_ble_eq_true rfl) dX9_spread_50 (fun q6 => ?_)
          refine aw_iinc (pc := 53) (v := x4 + 1) hC dX9_spread_53 rfl (congrArg (HAdd.hAdd _) ic1) rfl (by decide) ?_
          refine aw_goto (pc := 56) (tgt := 31) hC dX9_spread_56 (by decide) ?_
          exact ih (x4 + 1) q6
    refine hL31 (fun (μ3 : Mem) => (f_X1_spreadHere 1 μ3).bind fun (q7 : Int32) => some (0, q7, μ3)) (fun μ3 => ?_) 4096 0 q2
    · skip
      refine aw_aload_n (pc := 59) (i := 0) hC dX9_spread_59 rfl rfl ?_
      refine aw_get (pc := 60) hC inX9 (v0 (j := 0) (by decide)) rfl rfl 5 (by decide) kw281 rfl rfl dX9_spread_60 ?_
      refine aw_get (pc := 63) hC inX2 (vH (h := 1) (j := 0) (by decide) (by decide)) rfl rfl 0 (by decide) kw186 rfl rfl dX9_spread_63 ?_
      refine aw_callVR (pc := 66) (As := []) hC mb_X1_spreadHere kw1261 (by decide) (c_X1_spreadHere G C.2.1 1 (by decide) μ3 ) (vH (h := 1) (j := 1) (by decide) (by decide)) rfl rfl rfl (Nat.le_of_ble_eq_true rfl) dX9_spread_66 (fun q7 => ?_)
      exact aw_iretX hC dX9_spread_69
theorem dX9_trial_0 : decode cX9_trial 0 = .ok (.iload_n 1, 1) := by decide +kernel
theorem dX9_trial_1 : decode cX9_trial 1 = .ok (.ifCond .lt 9, 3) := by decide +kernel
theorem dX9_trial_4 : decode cX9_trial 4 = .ok (.iload_n 1, 1) := by decide +kernel
theorem dX9_trial_5 : decode cX9_trial 5 = .ok (.bipush 60, 2) := by decide +kernel
theorem dX9_trial_7 : decode cX9_trial 7 = .ok (.if_icmp .le 14, 3) := by decide +kernel
theorem dX9_trial_10 : decode cX9_trial 10 = .ok (.new 93, 3) := by decide +kernel
theorem dX9_trial_13 : decode cX9_trial 13 = .ok (.dup, 1) := by decide +kernel
theorem dX9_trial_14 : decode cX9_trial 14 = .ok (.ldc_w 264, 3) := by decide +kernel
theorem dX9_trial_17 : decode cX9_trial 17 = .ok (.invokespecial 97, 3) := by decide +kernel
theorem dX9_trial_20 : decode cX9_trial 20 = .ok (.athrow, 1) := by decide +kernel
theorem dX9_trial_21 : decode cX9_trial 21 = .ok (.aload_n 0, 1) := by decide +kernel
theorem dX9_trial_22 : decode cX9_trial 22 = .ok (.getfield 46, 3) := by decide +kernel
theorem dX9_trial_25 : decode cX9_trial 25 = .ok (.aload_n 0, 1) := by decide +kernel
theorem dX9_trial_26 : decode cX9_trial 26 = .ok (.getfield 42, 3) := by decide +kernel
theorem dX9_trial_29 : decode cX9_trial 29 = .ok (.invokevirtual 82, 3) := by decide +kernel
theorem dX9_trial_32 : decode cX9_trial 32 = .ok (.aload_n 0, 1) := by decide +kernel
theorem dX9_trial_33 : decode cX9_trial 33 = .ok (.getfield 46, 3) := by decide +kernel
theorem dX9_trial_36 : decode cX9_trial 36 = .ok (.iload_n 1, 1) := by decide +kernel
theorem dX9_trial_37 : decode cX9_trial 37 = .ok (.invokestatic 266, 3) := by decide +kernel
theorem dX9_trial_40 : decode cX9_trial 40 = .ok (.istore_n 3, 1) := by decide +kernel
theorem dX9_trial_41 : decode cX9_trial 41 = .ok (.iload_n 2, 1) := by decide +kernel
theorem dX9_trial_42 : decode cX9_trial 42 = .ok (.ifCond .eq 13, 3) := by decide +kernel
theorem dX9_trial_45 : decode cX9_trial 45 = .ok (.aload_n 0, 1) := by decide +kernel
theorem dX9_trial_46 : decode cX9_trial 46 = .ok (.getfield 46, 3) := by decide +kernel
theorem dX9_trial_49 : decode cX9_trial 49 = .ok (.invokevirtual 390, 3) := by decide +kernel
theorem dX9_trial_52 : decode cX9_trial 52 = .ok (.goto 4, 3) := by decide +kernel
theorem dX9_trial_55 : decode cX9_trial 55 = .ok (.iload_n 3, 1) := by decide +kernel
theorem dX9_trial_56 : decode cX9_trial 56 = .ok (.ireturn, 1) := by decide +kernel
def f_X9_trial (μ : Mem) (a1 : Int32) (a2 : Int32) : Option (Nat × Int32 × Mem) := nm (some (1, 0, μ)) fun (J10 : Option (Nat × Int32 × Mem)) => if a1 < 0 then (J10) else (if a1 ≤ 60 then ((f_X2_copy 1 0 μ).bind fun (q1 : Mem) => (f_X9_live 1 q1 a1).bind fun (q2 : Int32 × Mem) => if a2 = 0 then (some (0, q2.1, q2.2)) else ((f_X2_allHoles 1 q2.2).bind fun (q3 : Int32) => some (0, q3, q2.2))) else (J10))
set_option maxHeartbeats 4000000 in
set_option maxRecDepth 100000 in
theorem c_X9_trial (G : GG) (l : Launch) (hl0 : l.stackTraces = false) (μ : Mem) (a1 : Int32) (a2 : Int32) : CXT G l yX9_trial (.code yX9_trial cX9_trial 4 (some .int)) 8 [.ref (gad G 0 0), .int a1, .int a2] μ (f_X9_trial μ a1 a2) := by
  refine CXT.of (own := "SaturdayKeep") (L0 := [some (.ref (gad G 0 0)), some (.int a1), some (.int a2), none]) hl0 rfl rfl rfl (Nat.le_of_ble_eq_true rfl) (fun C hl1 hl hout hcs hC => ?_)
  subst hl1
  delta f_X9_trial
  refine aw_iload_n (pc := 0) (i := 1) hC dX9_trial_0 rfl rfl ?_
  refine aw_nmJ (fun (J10 : Option (Nat × Int32 × Mem)) => AW G C (qX G C) 0 0 4 μ 10 [none, none, none, none] [] (J10)) ?_ (fun J10 hJ10 => ?_)
  · skip
    exact aw_throwW (k := 1) (i := 37) hC hl hout hcs rfl rfl kw745 kw21 thr1_97 (by decide) (by decide) (Nat.le_of_ble_eq_true rfl) dX9_trial_10 dX9_trial_13 dX9_trial_14 dX9_trial_17 dX9_trial_20
  · skip
    refine aw_if_lt (pc := 1) (tgt := 10) hC dX9_trial_1 (by decide) (fun _ => ?_) (fun _ => ?_)
    · skip
      exact aw_drop [0, 1, 2] (hJ10)
    · skip
      refine aw_iload_n (pc := 4) (i := 1) hC dX9_trial_4 rfl rfl ?_
      refine aw_bipush (pc := 5) (v := 60) hC dX9_trial_5 bc60 ?_
      refine aw_icmp_le (pc := 7) (tgt := 21) hC dX9_trial_7 (by decide) (fun _ => ?_) (fun _ => ?_)
      · skip
        refine aw_aload_n (pc := 21) (i := 0) hC dX9_trial_21 rfl rfl ?_
        refine aw_get (pc := 22) hC inX9 (v0 (j := 0) (by decide)) rfl rfl 5 (by decide) kw281 rfl rfl dX9_trial_22 ?_
        refine aw_aload_n (pc := 25) (i := 0) hC dX9_trial_25 rfl rfl ?_
        refine aw_get (pc := 26) hC inX9 (v0 (j := 0) (by decide)) rfl rfl 4 (by decide) kw280 rfl rfl dX9_trial_26 ?_
        refine aw_callVV (pc := 29) (As := [.ref (gad G 1 0)]) hC mb_X2_copy kw346 (by decide) (c_X2_copy G C.2.1 1 0 (by decide) (by decide) μ ) (vH (h := 1) (j := 0) (by decide) (by decide)) rfl rfl rfl (Nat.le_of_ble_eq_true rfl) dX9_trial_29 (fun q1 => ?_)
        refine aw_aload_n (pc := 32) (i := 0) hC dX9_trial_32 rfl rfl ?_
        refine aw_get (pc := 33) hC inX9 (v0 (j := 0) (by decide)) rfl rfl 5 (by decide) kw281 rfl rfl dX9_trial_33 ?_
        refine aw_iload_n (pc := 36) (i := 1) hC dX9_trial_36 rfl rfl ?_
        refine aw_callSI (pc := 37) (As := [.ref (gad G 2 0), .int a1]) hC ms_X9_live kw1068 (by decide) (c_X9_live G C.2.1 1 (by decide) q1 a1) rfl (Nat.le_of_ble_eq_true rfl) dX9_trial_37 (fun q2 => ?_)
        refine aw_istore_n (pc := 40) (i := 3) hC dX9_trial_40 rfl rfl (by decide) ?_
        refine aw_iload_n (pc := 41) (i := 2) hC dX9_trial_41 rfl rfl ?_
        refine aw_if_eq (pc := 42) (tgt := 55) hC dX9_trial_42 (by decide) (fun _ => ?_) (fun _ => ?_)
        · skip
          refine aw_iload_n (pc := 55) (i := 3) hC dX9_trial_55 rfl rfl ?_
          exact aw_iretX hC dX9_trial_56
        · skip
          refine aw_aload_n (pc := 45) (i := 0) hC dX9_trial_45 rfl rfl ?_
          refine aw_get (pc := 46) hC inX9 (v0 (j := 0) (by decide)) rfl rfl 5 (by decide) kw281 rfl rfl dX9_trial_46 ?_
          refine aw_callVR (pc := 49) (As := []) hC mb_X2_allHoles kw568 (by decide) (c_X2_allHoles G C.2.1 1 (by decide) q2.2 ) (vH (h := 1) (j := 0) (by decide) (by decide)) rfl rfl rfl (Nat.le_of_ble_eq_true rfl) dX9_trial_49 (fun q3 => ?_)
          refine aw_goto (pc := 52) (tgt := 56) hC dX9_trial_52 (by decide) ?_
          exact aw_iretX hC dX9_trial_56
      · skip
        exact aw_drop [0, 1, 2] (hJ10)
theorem dX9_span_0 : decode cX9_span 0 = .ok (.iload_n 1, 1) := by decide +kernel
theorem dX9_span_1 : decode cX9_span 1 = .ok (.ifCond .lt 9, 3) := by decide +kernel
theorem dX9_span_4 : decode cX9_span 4 = .ok (.iload_n 1, 1) := by decide +kernel
theorem dX9_span_5 : decode cX9_span 5 = .ok (.bipush 60, 2) := by decide +kernel
theorem dX9_span_7 : decode cX9_span 7 = .ok (.if_icmp .le 14, 3) := by decide +kernel
theorem dX9_span_10 : decode cX9_span 10 = .ok (.new 93, 3) := by decide +kernel
theorem dX9_span_13 : decode cX9_span 13 = .ok (.dup, 1) := by decide +kernel
theorem dX9_span_14 : decode cX9_span 14 = .ok (.ldc_w 264, 3) := by decide +kernel
theorem dX9_span_17 : decode cX9_span 17 = .ok (.invokespecial 97, 3) := by decide +kernel
theorem dX9_span_20 : decode cX9_span 20 = .ok (.athrow, 1) := by decide +kernel
theorem dX9_span_21 : decode cX9_span 21 = .ok (.iconst (-1), 1) := by decide +kernel
theorem dX9_span_22 : decode cX9_span 22 = .ok (.istore_n 3, 1) := by decide +kernel
theorem dX9_span_23 : decode cX9_span 23 = .ok (.iconst 1, 1) := by decide +kernel
theorem dX9_span_24 : decode cX9_span 24 = .ok (.istore 4, 2) := by decide +kernel
theorem dX9_span_26 : decode cX9_span 26 = .ok (.iload 4, 2) := by decide +kernel
theorem dX9_span_28 : decode cX9_span 28 = .ok (.bipush 6, 2) := by decide +kernel
theorem dX9_span_30 : decode cX9_span 30 = .ok (.if_icmp .gt 66, 3) := by decide +kernel
theorem dX9_span_33 : decode cX9_span 33 = .ok (.aload_n 0, 1) := by decide +kernel
theorem dX9_span_34 : decode cX9_span 34 = .ok (.getfield 46, 3) := by decide +kernel
theorem dX9_span_37 : decode cX9_span 37 = .ok (.aload_n 0, 1) := by decide +kernel
theorem dX9_span_38 : decode cX9_span 38 = .ok (.getfield 42, 3) := by decide +kernel
theorem dX9_span_41 : decode cX9_span 41 = .ok (.invokevirtual 82, 3) := by decide +kernel
theorem dX9_span_44 : decode cX9_span 44 = .ok (.aload_n 0, 1) := by decide +kernel
theorem dX9_span_45 : decode cX9_span 45 = .ok (.getfield 46, 3) := by decide +kernel
theorem dX9_span_48 : decode cX9_span 48 = .ok (.iload 4, 2) := by decide +kernel
theorem dX9_span_50 : decode cX9_span 50 = .ok (.putfield 393, 3) := by decide +kernel
theorem dX9_span_53 : decode cX9_span 53 = .ok (.aload_n 0, 1) := by decide +kernel
theorem dX9_span_54 : decode cX9_span 54 = .ok (.getfield 46, 3) := by decide +kernel
theorem dX9_span_57 : decode cX9_span 57 = .ok (.iload_n 1, 1) := by decide +kernel
theorem dX9_span_58 : decode cX9_span 58 = .ok (.invokestatic 266, 3) := by decide +kernel
theorem dX9_span_61 : decode cX9_span 61 = .ok (.istore 5, 2) := by decide +kernel
theorem dX9_span_63 : decode cX9_span 63 = .ok (.iload_n 3, 1) := by decide +kernel
theorem dX9_span_64 : decode cX9_span 64 = .ok (.iconst (-1), 1) := by decide +kernel
theorem dX9_span_65 : decode cX9_span 65 = .ok (.if_icmp .eq 22, 3) := by decide +kernel
theorem dX9_span_68 : decode cX9_span 68 = .ok (.iload_n 2, 1) := by decide +kernel
theorem dX9_span_69 : decode cX9_span 69 = .ok (.ifCond .eq 12, 3) := by decide +kernel
theorem dX9_span_72 : decode cX9_span 72 = .ok (.iload 5, 2) := by decide +kernel
theorem dX9_span_74 : decode cX9_span 74 = .ok (.iload_n 3, 1) := by decide +kernel
theorem dX9_span_75 : decode cX9_span 75 = .ok (.if_icmp .le 15, 3) := by decide +kernel
theorem dX9_span_78 : decode cX9_span 78 = .ok (.goto 9, 3) := by decide +kernel
theorem dX9_span_81 : decode cX9_span 81 = .ok (.iload 5, 2) := by decide +kernel
theorem dX9_span_83 : decode cX9_span 83 = .ok (.iload_n 3, 1) := by decide +kernel
theorem dX9_span_84 : decode cX9_span 84 = .ok (.if_icmp .ge 6, 3) := by decide +kernel
theorem dX9_span_87 : decode cX9_span 87 = .ok (.iload 5, 2) := by decide +kernel
theorem dX9_span_89 : decode cX9_span 89 = .ok (.istore_n 3, 1) := by decide +kernel
theorem dX9_span_90 : decode cX9_span 90 = .ok (.iinc 4 1, 3) := by decide +kernel
theorem dX9_span_93 : decode cX9_span 93 = .ok (.goto (-67), 3) := by decide +kernel
theorem dX9_span_96 : decode cX9_span 96 = .ok (.iload_n 3, 1) := by decide +kernel
theorem dX9_span_97 : decode cX9_span 97 = .ok (.ireturn, 1) := by decide +kernel
def lp_X9_span_26 (a1 : Int32) (a2 : Int32) : Nat → Int32 → Int32 → Mem → Option (Nat × Int32 × Mem)
  | 0, _, _, _ => none
  | n + 1, x1, x2, μ3 => if 6 < x2 then (some (0, x1, μ3)) else ((f_X2_copy 1 0 μ3).bind fun (q4 : Mem) => nm (upm q4 2 0 15 x2) fun (μ5 : Mem) => (f_X9_live 1 μ5 a1).bind fun (q6 : Int32 × Mem) => if x1 = (-1) then (lp_X9_span_26 a1 a2 n q6.1 (x2 + 1) q6.2) else (if a2 = 0 then (if x1 ≤ q6.1 then (lp_X9_span_26 a1 a2 n x1 (x2 + 1) q6.2) else (lp_X9_span_26 a1 a2 n q6.1 (x2 + 1) q6.2)) else (if q6.1 ≤ x1 then (lp_X9_span_26 a1 a2 n x1 (x2 + 1) q6.2) else (lp_X9_span_26 a1 a2 n q6.1 (x2 + 1) q6.2))))
def f_X9_span (μ : Mem) (a1 : Int32) (a2 : Int32) : Option (Nat × Int32 × Mem) := nm (some (1, 0, μ)) fun (J10 : Option (Nat × Int32 × Mem)) => if a1 < 0 then (J10) else (if a1 ≤ 60 then (lp_X9_span_26 a1 a2 4096 (-1) 1 μ) else (J10))
set_option maxHeartbeats 4000000 in
set_option maxRecDepth 100000 in
theorem c_X9_span (G : GG) (l : Launch) (hl0 : l.stackTraces = false) (μ : Mem) (a1 : Int32) (a2 : Int32) : CXT G l yX9_span (.code yX9_span cX9_span 6 (some .int)) 8 [.ref (gad G 0 0), .int a1, .int a2] μ (f_X9_span μ a1 a2) := by
  refine CXT.of (own := "SaturdayKeep") (L0 := [some (.ref (gad G 0 0)), some (.int a1), some (.int a2), none, none, none]) hl0 rfl rfl rfl (Nat.le_of_ble_eq_true rfl) (fun C hl1 hl hout hcs hC => ?_)
  subst hl1
  delta f_X9_span
  refine aw_iload_n (pc := 0) (i := 1) hC dX9_span_0 rfl rfl ?_
  refine aw_nmJ (fun (J10 : Option (Nat × Int32 × Mem)) => AW G C (qX G C) 0 0 6 μ 10 [none, none, none, none, none, none] [] (J10)) ?_ (fun J10 hJ10 => ?_)
  · skip
    exact aw_throwW (k := 1) (i := 37) hC hl hout hcs rfl rfl kw745 kw21 thr1_97 (by decide) (by decide) (Nat.le_of_ble_eq_true rfl) dX9_span_10 dX9_span_13 dX9_span_14 dX9_span_17 dX9_span_20
  · skip
    refine aw_if_lt (pc := 1) (tgt := 10) hC dX9_span_1 (by decide) (fun _ => ?_) (fun _ => ?_)
    · skip
      exact aw_drop [0, 1, 2] (hJ10)
    · skip
      refine aw_iload_n (pc := 4) (i := 1) hC dX9_span_4 rfl rfl ?_
      refine aw_bipush (pc := 5) (v := 60) hC dX9_span_5 bc60 ?_
      refine aw_icmp_le (pc := 7) (tgt := 21) hC dX9_span_7 (by decide) (fun _ => ?_) (fun _ => ?_)
      · skip
        refine aw_iconst (pc := 21) (v := (-1)) hC dX9_span_21 icm1 ?_
        refine aw_istore_n (pc := 22) (i := 3) hC dX9_span_22 rfl rfl (by decide) ?_
        refine aw_iconst (pc := 23) (v := 1) hC dX9_span_23 ic1 ?_
        refine aw_istore (pc := 24) hC dX9_span_24 rfl (by decide) ?_
        have hL26 : ∀ (n : Nat) (x1 : Int32) (x2 : Int32) (μ3 : Mem), AW G C (qX G C) 0 0 6 μ3 26 [some (.ref (gad G 0 0)), some (.int a1), some (.int a2), some (.int x1), some (.int x2), none] [] (lp_X9_span_26 a1 a2 n x1 x2 μ3) := by
          intro n
          induction n with
          | zero => intro x1 x2 μ3; exact aw_none
          | succ n ih =>
            intro x1 x2 μ3
            rw [lp_X9_span_26]
            refine aw_iload (pc := 26) hC dX9_span_26 rfl ?_
            refine aw_bipush (pc := 28) (v := 6) hC dX9_span_28 bc6 ?_
            refine aw_icmp_gt (pc := 30) (tgt := 96) hC dX9_span_30 (by decide) (fun _ => ?_) (fun _ => ?_)
            · skip
              refine aw_iload_n (pc := 96) (i := 3) hC dX9_span_96 rfl rfl ?_
              exact aw_iretX hC dX9_span_97
            · skip
              refine aw_aload_n (pc := 33) (i := 0) hC dX9_span_33 rfl rfl ?_
              refine aw_get (pc := 34) hC inX9 (v0 (j := 0) (by decide)) rfl rfl 5 (by decide) kw281 rfl rfl dX9_span_34 ?_
              refine aw_aload_n (pc := 37) (i := 0) hC dX9_span_37 rfl rfl ?_
              refine aw_get (pc := 38) hC inX9 (v0 (j := 0) (by decide)) rfl rfl 4 (by decide) kw280 rfl rfl dX9_span_38 ?_
              refine aw_callVV (pc := 41) (As := [.ref (gad G 1 0)]) hC mb_X2_copy kw346 (by decide) (c_X2_copy G C.2.1 1 0 (by decide) (by decide) μ3 ) (vH (h := 1) (j := 0) (by decide) (by decide)) rfl rfl rfl (Nat.le_of_ble_eq_true rfl) dX9_span_41 (fun q4 => ?_)
              refine aw_aload_n (pc := 44) (i := 0) hC dX9_span_44 rfl rfl ?_
              refine aw_get (pc := 45) hC inX9 (v0 (j := 0) (by decide)) rfl rfl 5 (by decide) kw281 rfl rfl dX9_span_45 ?_
              refine aw_iload (pc := 48) hC dX9_span_48 rfl ?_
              refine aw_putIN (pc := 50) hC inX2 (vH (h := 1) (j := 0) (by decide) (by decide)) rfl rfl 15 (by decide) kw218 rfl tyX2 tyX2_ok nmX2 rfl rfl (Nat.le_of_ble_eq_true rfl) rfl dX9_span_50 (fun μ5 => ?_)
              refine aw_aload_n (pc := 53) (i := 0) hC dX9_span_53 rfl rfl ?_
              refine aw_get (pc := 54) hC inX9 (v0 (j := 0) (by decide)) rfl rfl 5 (by decide) kw281 rfl rfl dX9_span_54 ?_
              refine aw_iload_n (pc := 57) (i := 1) hC dX9_span_57 rfl rfl ?_
              refine aw_callSI (pc := 58) (As := [.ref (gad G 2 0), .int a1]) hC ms_X9_live kw1068 (by decide) (c_X9_live G C.2.1 1 (by decide) μ5 a1) rfl (Nat.le_of_ble_eq_true rfl) dX9_span_58 (fun q6 => ?_)
              refine aw_istore (pc := 61) hC dX9_span_61 rfl (by decide) ?_
              refine aw_iload_n (pc := 63) (i := 3) hC dX9_span_63 rfl rfl ?_
              refine aw_iconst (pc := 64) (v := (-1)) hC dX9_span_64 icm1 ?_
              refine aw_icmp_eq (pc := 65) (tgt := 87) hC dX9_span_65 (by decide) (fun _ => ?_) (fun _ => ?_)
              · skip
                refine aw_iload (pc := 87) hC dX9_span_87 rfl ?_
                refine aw_istore_n (pc := 89) (i := 3) hC dX9_span_89 rfl rfl (by decide) ?_
                refine aw_iinc (pc := 90) (v := x2 + 1) hC dX9_span_90 rfl (congrArg (HAdd.hAdd _) ic1) rfl (by decide) ?_
                refine aw_goto (pc := 93) (tgt := 26) hC dX9_span_93 (by decide) ?_
                exact aw_drop [5] (ih q6.1 (x2 + 1) q6.2)
              · skip
                refine aw_iload_n (pc := 68) (i := 2) hC dX9_span_68 rfl rfl ?_
                refine aw_if_eq (pc := 69) (tgt := 81) hC dX9_span_69 (by decide) (fun _ => ?_) (fun _ => ?_)
                · skip
                  refine aw_iload (pc := 81) hC dX9_span_81 rfl ?_
                  refine aw_iload_n (pc := 83) (i := 3) hC dX9_span_83 rfl rfl ?_
                  refine aw_icmp_ge (pc := 84) (tgt := 90) hC dX9_span_84 (by decide) (fun _ => ?_) (fun _ => ?_)
                  · skip
                    refine aw_iinc (pc := 90) (v := x2 + 1) hC dX9_span_90 rfl (congrArg (HAdd.hAdd _) ic1) rfl (by decide) ?_
                    refine aw_goto (pc := 93) (tgt := 26) hC dX9_span_93 (by decide) ?_
                    exact aw_drop [5] (ih x1 (x2 + 1) q6.2)
                  · skip
                    refine aw_iload (pc := 87) hC dX9_span_87 rfl ?_
                    refine aw_istore_n (pc := 89) (i := 3) hC dX9_span_89 rfl rfl (by decide) ?_
                    refine aw_iinc (pc := 90) (v := x2 + 1) hC dX9_span_90 rfl (congrArg (HAdd.hAdd _) ic1) rfl (by decide) ?_
                    refine aw_goto (pc := 93) (tgt := 26) hC dX9_span_93 (by decide) ?_
                    exact aw_drop [5] (ih q6.1 (x2 + 1) q6.2)
                · skip
                  refine aw_iload (pc := 72) hC dX9_span_72 rfl ?_
                  refine aw_iload_n (pc := 74) (i := 3) hC dX9_span_74 rfl rfl ?_
                  refine aw_icmp_le (pc := 75) (tgt := 90) hC dX9_span_75 (by decide) (fun _ => ?_) (fun _ => ?_)
                  · skip
                    refine aw_iinc (pc := 90) (v := x2 + 1) hC dX9_span_90 rfl (congrArg (HAdd.hAdd _) ic1) rfl (by decide) ?_
                    refine aw_goto (pc := 93) (tgt := 26) hC dX9_span_93 (by decide) ?_
                    exact aw_drop [5] (ih x1 (x2 + 1) q6.2)
                  · skip
                    refine aw_goto (pc := 78) (tgt := 87) hC dX9_span_78 (by decide) ?_
                    refine aw_iload (pc := 87) hC dX9_span_87 rfl ?_
                    refine aw_istore_n (pc := 89) (i := 3) hC dX9_span_89 rfl rfl (by decide) ?_
                    refine aw_iinc (pc := 90) (v := x2 + 1) hC dX9_span_90 rfl (congrArg (HAdd.hAdd _) ic1) rfl (by decide) ?_
                    refine aw_goto (pc := 93) (tgt := 26) hC dX9_span_93 (by decide) ?_
                    exact aw_drop [5] (ih q6.1 (x2 + 1) q6.2)
        exact hL26 4096 (-1) 1 μ
      · skip
        exact aw_drop [0, 1, 2] (hJ10)
