theorem dX10_best_0 : decode cX10_best 0 = .ok (.aload_n 0, 1) := by decide +kernel
theorem dX10_best_1 : decode cX10_best 1 = .ok (.iconst 0, 1) := by decide +kernel
theorem dX10_best_2 : decode cX10_best 2 = .ok (.putfield 42, 3) := by decide +kernel
theorem dX10_best_5 : decode cX10_best 5 = .ok (.iconst 0, 1) := by decide +kernel
theorem dX10_best_6 : decode cX10_best 6 = .ok (.istore_n 1, 1) := by decide +kernel
theorem dX10_best_7 : decode cX10_best 7 = .ok (.iconst 1, 1) := by decide +kernel
theorem dX10_best_8 : decode cX10_best 8 = .ok (.istore_n 2, 1) := by decide +kernel
theorem dX10_best_9 : decode cX10_best 9 = .ok (.iload_n 2, 1) := by decide +kernel
theorem dX10_best_10 : decode cX10_best 10 = .ok (.bipush 8, 2) := by decide +kernel
theorem dX10_best_12 : decode cX10_best 12 = .ok (.if_icmp .ge 58, 3) := by decide +kernel
theorem dX10_best_15 : decode cX10_best 15 = .ok (.aload_n 0, 1) := by decide +kernel
theorem dX10_best_16 : decode cX10_best 16 = .ok (.iload_n 2, 1) := by decide +kernel
theorem dX10_best_17 : decode cX10_best 17 = .ok (.invokevirtual 252, 3) := by decide +kernel
theorem dX10_best_20 : decode cX10_best 20 = .ok (.invokestatic 57, 3) := by decide +kernel
theorem dX10_best_23 : decode cX10_best 23 = .ok (.aload_n 0, 1) := by decide +kernel
theorem dX10_best_24 : decode cX10_best 24 = .ok (.iload_n 1, 1) := by decide +kernel
theorem dX10_best_25 : decode cX10_best 25 = .ok (.invokevirtual 252, 3) := by decide +kernel
theorem dX10_best_28 : decode cX10_best 28 = .ok (.invokestatic 57, 3) := by decide +kernel
theorem dX10_best_31 : decode cX10_best 31 = .ok (.isub, 1) := by decide +kernel
theorem dX10_best_32 : decode cX10_best 32 = .ok (.istore_n 3, 1) := by decide +kernel
theorem dX10_best_33 : decode cX10_best 33 = .ok (.iload_n 3, 1) := by decide +kernel
theorem dX10_best_34 : decode cX10_best 34 = .ok (.ifCond .lt 28, 3) := by decide +kernel
theorem dX10_best_37 : decode cX10_best 37 = .ok (.iload_n 3, 1) := by decide +kernel
theorem dX10_best_38 : decode cX10_best 38 = .ok (.ifCond .ne 26, 3) := by decide +kernel
theorem dX10_best_41 : decode cX10_best 41 = .ok (.aload_n 0, 1) := by decide +kernel
theorem dX10_best_42 : decode cX10_best 42 = .ok (.aload_n 0, 1) := by decide +kernel
theorem dX10_best_43 : decode cX10_best 43 = .ok (.iload_n 2, 1) := by decide +kernel
theorem dX10_best_44 : decode cX10_best 44 = .ok (.invokevirtual 252, 3) := by decide +kernel
theorem dX10_best_47 : decode cX10_best 47 = .ok (.invokevirtual 305, 3) := by decide +kernel
theorem dX10_best_50 : decode cX10_best 50 = .ok (.aload_n 0, 1) := by decide +kernel
theorem dX10_best_51 : decode cX10_best 51 = .ok (.aload_n 0, 1) := by decide +kernel
theorem dX10_best_52 : decode cX10_best 52 = .ok (.iload_n 1, 1) := by decide +kernel
theorem dX10_best_53 : decode cX10_best 53 = .ok (.invokevirtual 252, 3) := by decide +kernel
theorem dX10_best_56 : decode cX10_best 56 = .ok (.invokevirtual 305, 3) := by decide +kernel
theorem dX10_best_59 : decode cX10_best 59 = .ok (.if_icmp .ge 5, 3) := by decide +kernel
theorem dX10_best_62 : decode cX10_best 62 = .ok (.iload_n 2, 1) := by decide +kernel
theorem dX10_best_63 : decode cX10_best 63 = .ok (.istore_n 1, 1) := by decide +kernel
theorem dX10_best_64 : decode cX10_best 64 = .ok (.iinc 2 1, 3) := by decide +kernel
theorem dX10_best_67 : decode cX10_best 67 = .ok (.goto (-58), 3) := by decide +kernel
theorem dX10_best_70 : decode cX10_best 70 = .ok (.iload_n 1, 1) := by decide +kernel
theorem dX10_best_71 : decode cX10_best 71 = .ok (.ireturn, 1) := by decide +kernel
def lp_X10_best_9 (μ1 : Mem) : Nat → Int32 → Int32 → Option (Int32 × Mem)
  | 0, _, _ => none
  | n + 1, x2, x3 => if 8 ≤ x3 then (some (x2, μ1)) else ((f_X10_watchers μ1 x3).bind fun (q4 : Int32) => (f_X10_bits q4).bind fun (q5 : Int32) => (f_X10_watchers μ1 x2).bind fun (q6 : Int32) => (f_X10_bits q6).bind fun (q7 : Int32) => if (q5 - q7) < 0 then (lp_X10_best_9 μ1 n x3 (x3 + 1)) else (if (q5 - q7) = 0 then ((f_X10_watchers μ1 x3).bind fun (q8 : Int32) => (f_X10_risksOf μ1 q8).bind fun (q9 : Int32) => (f_X10_watchers μ1 x2).bind fun (q10 : Int32) => (f_X10_risksOf μ1 q10).bind fun (q11 : Int32) => if q11 ≤ q9 then (lp_X10_best_9 μ1 n x2 (x3 + 1)) else (lp_X10_best_9 μ1 n x3 (x3 + 1))) else (lp_X10_best_9 μ1 n x2 (x3 + 1))))
def f_X10_best (μ : Mem) : Option (Int32 × Mem) := nm (upm μ 0 12 0 0) fun (μ1 : Mem) => lp_X10_best_9 μ1 4096 0 1
set_option maxHeartbeats 4000000 in
set_option maxRecDepth 100000 in
theorem c_X10_best (G : GG) (l : Launch) (μ : Mem) : CI G l yX10_best (.code yX10_best cX10_best 4 (some .int)) 6 [.ref (gad G 0 12)] μ (f_X10_best μ) := by
  refine CI.of (own := "SaturdayKeepModel") (L0 := [some (.ref (gad G 0 12)), none, none, none]) rfl rfl rfl (Nat.le_of_ble_eq_true rfl) (fun C hl hC => ?_)
  subst hl
  delta f_X10_best
  refine aw_aload_n (pc := 0) (i := 0) hC dX10_best_0 rfl rfl ?_
  refine aw_iconst (pc := 1) (v := 0) hC dX10_best_1 ic0 ?_
  refine aw_putIN (pc := 2) hC inX10 (v0 (j := 12) (by decide)) rfl rfl 0 (by decide) kw1314 rfl tyX10 tyX10_ok nmX10 rfl rfl (Nat.le_of_ble_eq_true rfl) rfl dX10_best_2 (fun μ1 => ?_)
  refine aw_iconst (pc := 5) (v := 0) hC dX10_best_5 ic0 ?_
  refine aw_istore_n (pc := 6) (i := 1) hC dX10_best_6 rfl rfl (by decide) ?_
  refine aw_iconst (pc := 7) (v := 1) hC dX10_best_7 ic1 ?_
  refine aw_istore_n (pc := 8) (i := 2) hC dX10_best_8 rfl rfl (by decide) ?_
  have hL9 : ∀ (n : Nat) (x2 : Int32) (x3 : Int32), AW G C (qI G C 0 0) 0 0 4 μ1 9 [some (.ref (gad G 0 12)), some (.int x2), some (.int x3), none] [] (lp_X10_best_9 μ1 n x2 x3) := by
    intro n
    induction n with
    | zero => intro x2 x3; exact aw_none
    | succ n ih =>
      intro x2 x3
      rw [lp_X10_best_9]
      refine aw_iload_n (pc := 9) (i := 2) hC dX10_best_9 rfl rfl ?_
      refine aw_bipush (pc := 10) (v := 8) hC dX10_best_10 bc8 ?_
      refine aw_icmp_ge (pc := 12) (tgt := 70) hC dX10_best_12 (by decide) (fun _ => ?_) (fun _ => ?_)
      · skip
        refine aw_iload_n (pc := 70) (i := 1) hC dX10_best_70 rfl rfl ?_
        exact aw_iret hC dX10_best_71
      · skip
        refine aw_aload_n (pc := 15) (i := 0) hC dX10_best_15 rfl rfl ?_
        refine aw_iload_n (pc := 16) (i := 2) hC dX10_best_16 rfl rfl ?_
        refine aw_callVR (pc := 17) (As := [.int x3]) hC mb_X10_watchers kw1596 (by decide) (c_X10_watchers G C.2.1   μ1 x3) (v0 (j := 12) (by decide)) rfl rfl rfl (Nat.le_of_ble_eq_true rfl) dX10_best_17 (fun q4 => ?_)
        refine aw_callSR (pc := 20) (As := [.int q4]) hC ms_X10_bits kw1551 (by decide) (c_X10_bits G C.2.1   μ1 q4) rfl (Nat.le_of_ble_eq_true rfl) dX10_best_20 (fun q5 => ?_)
        refine aw_aload_n (pc := 23) (i := 0) hC dX10_best_23 rfl rfl ?_
        refine aw_iload_n (pc := 24) (i := 1) hC dX10_best_24 rfl rfl ?_
        refine aw_callVR (pc := 25) (As := [.int x2]) hC mb_X10_watchers kw1596 (by decide) (c_X10_watchers G C.2.1   μ1 x2) (v0 (j := 12) (by decide)) rfl rfl rfl (Nat.le_of_ble_eq_true rfl) dX10_best_25 (fun q6 => ?_)
        refine aw_callSR (pc := 28) (As := [.int q6]) hC ms_X10_bits kw1551 (by decide) (c_X10_bits G C.2.1   μ1 q6) rfl (Nat.le_of_ble_eq_true rfl) dX10_best_28 (fun q7 => ?_)
        refine aw_isub (pc := 31) hC dX10_best_31 ?_
        refine aw_istore_n (pc := 32) (i := 3) hC dX10_best_32 rfl rfl (by decide) ?_
        refine aw_iload_n (pc := 33) (i := 3) hC dX10_best_33 rfl rfl ?_
        refine aw_if_lt (pc := 34) (tgt := 62) hC dX10_best_34 (by decide) (fun _ => ?_) (fun _ => ?_)
        · skip
          refine aw_iload_n (pc := 62) (i := 2) hC dX10_best_62 rfl rfl ?_
          refine aw_istore_n (pc := 63) (i := 1) hC dX10_best_63 rfl rfl (by decide) ?_
          refine aw_iinc (pc := 64) (v := x3 + 1) hC dX10_best_64 rfl (congrArg (HAdd.hAdd _) ic1) rfl (by decide) ?_
          refine aw_goto (pc := 67) (tgt := 9) hC dX10_best_67 (by decide) ?_
          exact aw_drop [3] (ih x3 (x3 + 1))
        · skip
          refine aw_iload_n (pc := 37) (i := 3) hC dX10_best_37 rfl rfl ?_
          refine aw_if_ne (pc := 38) (tgt := 64) hC dX10_best_38 (by decide) (fun _ => ?_) (fun _ => ?_)
          · skip
            refine aw_aload_n (pc := 41) (i := 0) hC dX10_best_41 rfl rfl ?_
            refine aw_aload_n (pc := 42) (i := 0) hC dX10_best_42 rfl rfl ?_
            refine aw_iload_n (pc := 43) (i := 2) hC dX10_best_43 rfl rfl ?_
            refine aw_callVR (pc := 44) (As := [.int x3]) hC mb_X10_watchers kw1596 (by decide) (c_X10_watchers G C.2.1   μ1 x3) (v0 (j := 12) (by decide)) rfl rfl rfl (Nat.le_of_ble_eq_true rfl) dX10_best_44 (fun q8 => ?_)
            refine aw_callVR (pc := 47) (As := [.int q8]) hC mb_X10_risksOf kw1745 (by decide) (c_X10_risksOf G C.2.1   μ1 q8) (v0 (j := 12) (by decide)) rfl rfl rfl (Nat.le_of_ble_eq_true rfl) dX10_best_47 (fun q9 => ?_)
            refine aw_aload_n (pc := 50) (i := 0) hC dX10_best_50 rfl rfl ?_
            refine aw_aload_n (pc := 51) (i := 0) hC dX10_best_51 rfl rfl ?_
            refine aw_iload_n (pc := 52) (i := 1) hC dX10_best_52 rfl rfl ?_
            refine aw_callVR (pc := 53) (As := [.int x2]) hC mb_X10_watchers kw1596 (by decide) (c_X10_watchers G C.2.1   μ1 x2) (v0 (j := 12) (by decide)) rfl rfl rfl (Nat.le_of_ble_eq_true rfl) dX10_best_53 (fun q10 => ?_)
            refine aw_callVR (pc := 56) (As := [.int q10]) hC mb_X10_risksOf kw1745 (by decide) (c_X10_risksOf G C.2.1   μ1 q10) (v0 (j := 12) (by decide)) rfl rfl rfl (Nat.le_of_ble_eq_true rfl) dX10_best_56 (fun q11 => ?_)
            refine aw_icmp_ge (pc := 59) (tgt := 64) hC dX10_best_59 (by decide) (fun _ => ?_) (fun _ => ?_)
            · skip
              refine aw_iinc (pc := 64) (v := x3 + 1) hC dX10_best_64 rfl (congrArg (HAdd.hAdd _) ic1) rfl (by decide) ?_
              refine aw_goto (pc := 67) (tgt := 9) hC dX10_best_67 (by decide) ?_
              exact aw_drop [3] (ih x2 (x3 + 1))
            · skip
              refine aw_iload_n (pc := 62) (i := 2) hC dX10_best_62 rfl rfl ?_
              refine aw_istore_n (pc := 63) (i := 1) hC dX10_best_63 rfl rfl (by decide) ?_
              refine aw_iinc (pc := 64) (v := x3 + 1) hC dX10_best_64 rfl (congrArg (HAdd.hAdd _) ic1) rfl (by decide) ?_
              refine aw_goto (pc := 67) (tgt := 9) hC dX10_best_67 (by decide) ?_
              exact aw_drop [3] (ih x3 (x3 + 1))
          · skip
            refine aw_iinc (pc := 64) (v := x3 + 1) hC dX10_best_64 rfl (congrArg (HAdd.hAdd _) ic1) rfl (by decide) ?_
            refine aw_goto (pc := 67) (tgt := 9) hC dX10_best_67 (by decide) ?_
            exact aw_drop [3] (ih x2 (x3 + 1))
  exact hL9 4096 0 1
theorem dX10_by_0 : decode cX10_by 0 = .ok (.aload_n 0, 1) := by decide +kernel
theorem dX10_by_1 : decode cX10_by 1 = .ok (.getfield 32, 3) := by decide +kernel
theorem dX10_by_4 : decode cX10_by 4 = .ok (.iload_n 1, 1) := by decide +kernel
theorem dX10_by_5 : decode cX10_by 5 = .ok (.iaload, 1) := by decide +kernel
theorem dX10_by_6 : decode cX10_by 6 = .ok (.istore 4, 2) := by decide +kernel
theorem dX10_by_8 : decode cX10_by 8 = .ok (.iload_n 2, 1) := by decide +kernel
theorem dX10_by_9 : decode cX10_by 9 = .ok (.iload_n 3, 1) := by decide +kernel
theorem dX10_by_10 : decode cX10_by 10 = .ok (.invokestatic 53, 3) := by decide +kernel
theorem dX10_by_13 : decode cX10_by 13 = .ok (.ifCond .ne 57, 3) := by decide +kernel
theorem dX10_by_16 : decode cX10_by 16 = .ok (.aload_n 0, 1) := by decide +kernel
theorem dX10_by_17 : decode cX10_by 17 = .ok (.iload_n 3, 1) := by decide +kernel
theorem dX10_by_18 : decode cX10_by 18 = .ok (.aload_n 0, 1) := by decide +kernel
theorem dX10_by_19 : decode cX10_by 19 = .ok (.iload 4, 2) := by decide +kernel
theorem dX10_by_21 : decode cX10_by 21 = .ok (.iconst 3, 1) := by decide +kernel
theorem dX10_by_22 : decode cX10_by 22 = .ok (.invokevirtual 49, 3) := by decide +kernel
theorem dX10_by_25 : decode cX10_by 25 = .ok (.iconst 1, 1) := by decide +kernel
theorem dX10_by_26 : decode cX10_by 26 = .ok (.if_icmp .ne 7, 3) := by decide +kernel
theorem dX10_by_29 : decode cX10_by 29 = .ok (.iconst 1, 1) := by decide +kernel
theorem dX10_by_30 : decode cX10_by 30 = .ok (.goto 4, 3) := by decide +kernel
theorem dX10_by_33 : decode cX10_by 33 = .ok (.iconst 0, 1) := by decide +kernel
theorem dX10_by_34 : decode cX10_by 34 = .ok (.aload_n 0, 1) := by decide +kernel
theorem dX10_by_35 : decode cX10_by 35 = .ok (.getfield 7, 3) := by decide +kernel
theorem dX10_by_38 : decode cX10_by 38 = .ok (.iconst 4, 1) := by decide +kernel
theorem dX10_by_39 : decode cX10_by 39 = .ok (.iaload, 1) := by decide +kernel
theorem dX10_by_40 : decode cX10_by 40 = .ok (.invokevirtual 232, 3) := by decide +kernel
theorem dX10_by_43 : decode cX10_by 43 = .ok (.ifCond .ne 27, 3) := by decide +kernel
theorem dX10_by_46 : decode cX10_by 46 = .ok (.aload_n 0, 1) := by decide +kernel
theorem dX10_by_47 : decode cX10_by 47 = .ok (.getfield 35, 3) := by decide +kernel
theorem dX10_by_50 : decode cX10_by 50 = .ok (.sipush 256, 3) := by decide +kernel
theorem dX10_by_53 : decode cX10_by 53 = .ok (.iload_n 1, 1) := by decide +kernel
theorem dX10_by_54 : decode cX10_by 54 = .ok (.iconst 1, 1) := by decide +kernel
theorem dX10_by_55 : decode cX10_by 55 = .ok (.iadd, 1) := by decide +kernel
theorem dX10_by_56 : decode cX10_by 56 = .ok (.imul, 1) := by decide +kernel
theorem dX10_by_57 : decode cX10_by 57 = .ok (.iload_n 2, 1) := by decide +kernel
theorem dX10_by_58 : decode cX10_by 58 = .ok (.iconst 1, 1) := by decide +kernel
theorem dX10_by_59 : decode cX10_by 59 = .ok (.iload_n 3, 1) := by decide +kernel
theorem dX10_by_60 : decode cX10_by 60 = .ok (.ishl, 1) := by decide +kernel
theorem dX10_by_61 : decode cX10_by 61 = .ok (.ior, 1) := by decide +kernel
theorem dX10_by_62 : decode cX10_by 62 = .ok (.iadd, 1) := by decide +kernel
theorem dX10_by_63 : decode cX10_by 63 = .ok (.iaload, 1) := by decide +kernel
theorem dX10_by_64 : decode cX10_by 64 = .ok (.ldc_w 308, 3) := by decide +kernel
theorem dX10_by_67 : decode cX10_by 67 = .ok (.if_icmp .ne 7, 3) := by decide +kernel
theorem dX10_by_70 : decode cX10_by 70 = .ok (.ldc_w 308, 3) := by decide +kernel
theorem dX10_by_73 : decode cX10_by 73 = .ok (.ireturn, 1) := by decide +kernel
theorem dX10_by_74 : decode cX10_by 74 = .ok (.aload_n 0, 1) := by decide +kernel
theorem dX10_by_75 : decode cX10_by 75 = .ok (.getfield 35, 3) := by decide +kernel
theorem dX10_by_78 : decode cX10_by 78 = .ok (.sipush 256, 3) := by decide +kernel
theorem dX10_by_81 : decode cX10_by 81 = .ok (.iload_n 1, 1) := by decide +kernel
theorem dX10_by_82 : decode cX10_by 82 = .ok (.iconst 1, 1) := by decide +kernel
theorem dX10_by_83 : decode cX10_by 83 = .ok (.iadd, 1) := by decide +kernel
theorem dX10_by_84 : decode cX10_by 84 = .ok (.imul, 1) := by decide +kernel
theorem dX10_by_85 : decode cX10_by 85 = .ok (.iload_n 2, 1) := by decide +kernel
theorem dX10_by_86 : decode cX10_by 86 = .ok (.iconst 1, 1) := by decide +kernel
theorem dX10_by_87 : decode cX10_by 87 = .ok (.iload_n 3, 1) := by decide +kernel
theorem dX10_by_88 : decode cX10_by 88 = .ok (.ishl, 1) := by decide +kernel
theorem dX10_by_89 : decode cX10_by 89 = .ok (.ior, 1) := by decide +kernel
theorem dX10_by_90 : decode cX10_by 90 = .ok (.iadd, 1) := by decide +kernel
theorem dX10_by_91 : decode cX10_by 91 = .ok (.iaload, 1) := by decide +kernel
theorem dX10_by_92 : decode cX10_by 92 = .ok (.aload_n 0, 1) := by decide +kernel
theorem dX10_by_93 : decode cX10_by 93 = .ok (.iload 4, 2) := by decide +kernel
theorem dX10_by_95 : decode cX10_by 95 = .ok (.iconst 0, 1) := by decide +kernel
theorem dX10_by_96 : decode cX10_by 96 = .ok (.invokevirtual 49, 3) := by decide +kernel
theorem dX10_by_99 : decode cX10_by 99 = .ok (.iload_n 3, 1) := by decide +kernel
theorem dX10_by_100 : decode cX10_by 100 = .ok (.if_icmp .ne 7, 3) := by decide +kernel
theorem dX10_by_103 : decode cX10_by 103 = .ok (.iconst 0, 1) := by decide +kernel
theorem dX10_by_104 : decode cX10_by 104 = .ok (.goto 4, 3) := by decide +kernel
theorem dX10_by_107 : decode cX10_by 107 = .ok (.iconst 1, 1) := by decide +kernel
theorem dX10_by_108 : decode cX10_by 108 = .ok (.iadd, 1) := by decide +kernel
theorem dX10_by_109 : decode cX10_by 109 = .ok (.ireturn, 1) := by decide +kernel
def f_X10_by (μ : Mem) (a1 : Int32) (a2 : Int32) (a3 : Int32) : Option (Int32) := ix a1 8 ((f_X10_isOf a2 a3).bind fun (q1 : Int32) => if q1 = 0 then ((f_X10_of μ (μ 0 19 a1.toNatClampNeg) 3).bind fun (q2 : Int32) => nm (fun (x3 : Int32) => ix 4 704 ((f_X10_seesFrom μ a3 x3 (μ 0 13 (Int32.toNatClampNeg 4))).bind fun (q4 : Int32) => if q4 = 0 then (ix ((256 * (a1 + 1)) + (a2 ||| (jshl 1 a3))) 2304 (if (μ 0 20 ((256 * (a1 + 1)) + (a2 ||| (jshl 1 a3))).toNatClampNeg) = 2000000000 then (some 2000000000) else (ix ((256 * (a1 + 1)) + (a2 ||| (jshl 1 a3))) 2304 ((f_X10_of μ (μ 0 19 a1.toNatClampNeg) 0).bind fun (q5 : Int32) => if q5 = a3 then (some ((μ 0 20 ((256 * (a1 + 1)) + (a2 ||| (jshl 1 a3))).toNatClampNeg) + 0)) else (some ((μ 0 20 ((256 * (a1 + 1)) + (a2 ||| (jshl 1 a3))).toNatClampNeg) + 1)))))) else (some 2000000000))) fun (J34 : Int32 → Option (Int32)) => if q2 = 1 then (J34 1) else (J34 0)) else (some 2000000000))
set_option maxHeartbeats 4000000 in
set_option maxRecDepth 100000 in
theorem c_X10_by (G : GG) (l : Launch) (μ : Mem) (a1 : Int32) (a2 : Int32) (a3 : Int32) : CR G l yX10_by (.code yX10_by cX10_by 5 (some .int)) 4 [.ref (gad G 0 12), .int a1, .int a2, .int a3] μ (f_X10_by μ a1 a2 a3) := by
  refine CR.of (own := "SaturdayKeepModel") (L0 := [some (.ref (gad G 0 12)), some (.int a1), some (.int a2), some (.int a3), none]) rfl rfl rfl (Nat.le_of_ble_eq_true rfl) (fun C hl hC => ?_)
  subst hl
  delta f_X10_by
  refine aw_aload_n (pc := 0) (i := 0) hC dX10_by_0 rfl rfl ?_
  refine aw_get (pc := 1) hC inX10 (v0 (j := 12) (by decide)) rfl rfl 18 (by decide) kw1332 rfl rfl dX10_by_1 ?_
  refine aw_iload_n (pc := 4) (i := 1) hC dX10_by_4 rfl rfl ?_
  refine aw_iaload (pc := 5) hC (v0 (j := 19) (by decide)) rfl dX10_by_5 ?_
  refine aw_istore (pc := 6) hC dX10_by_6 rfl (by decide) ?_
  refine aw_iload_n (pc := 8) (i := 2) hC dX10_by_8 rfl rfl ?_
  refine aw_iload_n (pc := 9) (i := 3) hC dX10_by_9 rfl rfl ?_
  refine aw_callSR (pc := 10) (As := [.int a2, .int a3]) hC ms_X10_isOf kw1578 (by decide) (c_X10_isOf G C.2.1   μ a2 a3) rfl (Nat.le_of_ble_eq_true rfl) dX10_by_10 (fun q1 => ?_)
  refine aw_if_ne (pc := 13) (tgt := 70) hC dX10_by_13 (by decide) (fun _ => ?_) (fun _ => ?_)
  · skip
    refine aw_aload_n (pc := 16) (i := 0) hC dX10_by_16 rfl rfl ?_
    refine aw_iload_n (pc := 17) (i := 3) hC dX10_by_17 rfl rfl ?_
    refine aw_aload_n (pc := 18) (i := 0) hC dX10_by_18 rfl rfl ?_
    refine aw_iload (pc := 19) hC dX10_by_19 rfl ?_
    refine aw_iconst (pc := 21) (v := 3) hC dX10_by_21 ic3 ?_
    refine aw_callVR (pc := 22) (As := [.int (μ 0 19 a1.toNatClampNeg), .int 3]) hC mb_X10_of kw1539 (by decide) (c_X10_of G C.2.1   μ (μ 0 19 a1.toNatClampNeg) 3) (v0 (j := 12) (by decide)) rfl rfl rfl (Nat.le_of_ble_eq_true rfl) dX10_by_22 (fun q2 => ?_)
    refine aw_iconst (pc := 25) (v := 1) hC dX10_by_25 ic1 ?_
    refine aw_nmJ (fun (J34 : Int32 → Option (Int32)) => ∀ (x3 : Int32), AW G C (qR G C 0 0 μ) 0 0 5 μ 34 [some (.ref (gad G 0 12)), some (.int a1), some (.int a2), some (.int a3), some (.int (μ 0 19 a1.toNatClampNeg))] [.int x3, .int a3, .ref (gad G 0 12)] (J34 x3)) (fun x3 => ?_) (fun J34 hJ34 => ?_)
    · skip
      refine aw_aload_n (pc := 34) (i := 0) hC dX10_by_34 rfl rfl ?_
      refine aw_get (pc := 35) hC inX10 (v0 (j := 12) (by decide)) rfl rfl 1 (by decide) kw1315 rfl rfl dX10_by_35 ?_
      refine aw_iconst (pc := 38) (v := 4) hC dX10_by_38 ic4 ?_
      refine aw_iaload (pc := 39) hC (v0 (j := 13) (by decide)) rfl dX10_by_39 ?_
      refine aw_callVR (pc := 40) (As := [.int a3, .int x3, .int (μ 0 13 (Int32.toNatClampNeg 4))]) hC mb_X10_seesFrom kw1570 (by decide) (c_X10_seesFrom G C.2.1   μ a3 x3 (μ 0 13 (Int32.toNatClampNeg 4))) (v0 (j := 12) (by decide)) rfl rfl rfl (Nat.le_of_ble_eq_true rfl) dX10_by_40 (fun q4 => ?_)
      refine aw_if_ne (pc := 43) (tgt := 70) hC dX10_by_43 (by decide) (fun _ => ?_) (fun _ => ?_)
      · skip
        refine aw_aload_n (pc := 46) (i := 0) hC dX10_by_46 rfl rfl ?_
        refine aw_get (pc := 47) hC inX10 (v0 (j := 12) (by decide)) rfl rfl 20 (by decide) kw1334 rfl rfl dX10_by_47 ?_
        refine aw_sipush (pc := 50) (v := 256) hC dX10_by_50 sc256 ?_
        refine aw_iload_n (pc := 53) (i := 1) hC dX10_by_53 rfl rfl ?_
        refine aw_iconst (pc := 54) (v := 1) hC dX10_by_54 ic1 ?_
        refine aw_iadd (pc := 55) hC dX10_by_55 ?_
        refine aw_imul (pc := 56) hC dX10_by_56 ?_
        refine aw_iload_n (pc := 57) (i := 2) hC dX10_by_57 rfl rfl ?_
        refine aw_iconst (pc := 58) (v := 1) hC dX10_by_58 ic1 ?_
        refine aw_iload_n (pc := 59) (i := 3) hC dX10_by_59 rfl rfl ?_
        refine aw_ishl (pc := 60) hC dX10_by_60 ?_
        refine aw_ior (pc := 61) hC dX10_by_61 ?_
        refine aw_iadd (pc := 62) hC dX10_by_62 ?_
        refine aw_iaload (pc := 63) hC (v0 (j := 20) (by decide)) rfl dX10_by_63 ?_
        refine aw_ldcw (pc := 64) hC kw1753 dX10_by_64 ?_
        refine aw_icmp_ne (pc := 67) (tgt := 74) hC dX10_by_67 (by decide) (fun _ => ?_) (fun _ => ?_)
        · skip
          refine aw_ldcw (pc := 70) hC kw1753 dX10_by_70 ?_
          exact aw_iretR hC dX10_by_73
        · skip
          refine aw_aload_n (pc := 74) (i := 0) hC dX10_by_74 rfl rfl ?_
          refine aw_get (pc := 75) hC inX10 (v0 (j := 12) (by decide)) rfl rfl 20 (by decide) kw1334 rfl rfl dX10_by_75 ?_
          refine aw_sipush (pc := 78) (v := 256) hC dX10_by_78 sc256 ?_
          refine aw_iload_n (pc := 81) (i := 1) hC dX10_by_81 rfl rfl ?_
          refine aw_iconst (pc := 82) (v := 1) hC dX10_by_82 ic1 ?_
          refine aw_iadd (pc := 83) hC dX10_by_83 ?_
          refine aw_imul (pc := 84) hC dX10_by_84 ?_
          refine aw_iload_n (pc := 85) (i := 2) hC dX10_by_85 rfl rfl ?_
          refine aw_iconst (pc := 86) (v := 1) hC dX10_by_86 ic1 ?_
          refine aw_iload_n (pc := 87) (i := 3) hC dX10_by_87 rfl rfl ?_
          refine aw_ishl (pc := 88) hC dX10_by_88 ?_
          refine aw_ior (pc := 89) hC dX10_by_89 ?_
          refine aw_iadd (pc := 90) hC dX10_by_90 ?_
          refine aw_iaload (pc := 91) hC (v0 (j := 20) (by decide)) rfl dX10_by_91 ?_
          refine aw_aload_n (pc := 92) (i := 0) hC dX10_by_92 rfl rfl ?_
          refine aw_iload (pc := 93) hC dX10_by_93 rfl ?_
          refine aw_iconst (pc := 95) (v := 0) hC dX10_by_95 ic0 ?_
          refine aw_callVR (pc := 96) (As := [.int (μ 0 19 a1.toNatClampNeg), .int 0]) hC mb_X10_of kw1539 (by decide) (c_X10_of G C.2.1   μ (μ 0 19 a1.toNatClampNeg) 0) (v0 (j := 12) (by decide)) rfl rfl rfl (Nat.le_of_ble_eq_true rfl) dX10_by_96 (fun q5 => ?_)
          refine aw_iload_n (pc := 99) (i := 3) hC dX10_by_99 rfl rfl ?_
          refine aw_icmp_ne (pc := 100) (tgt := 107) hC dX10_by_100 (by decide) (fun _ => ?_) (fun _ => ?_)
          · skip
            refine aw_iconst (pc := 103) (v := 0) hC dX10_by_103 ic0 ?_
            refine aw_goto (pc := 104) (tgt := 108) hC dX10_by_104 (by decide) ?_
            refine aw_iadd (pc := 108) hC dX10_by_108 ?_
            exact aw_iretR hC dX10_by_109
          · skip
            refine aw_iconst (pc := 107) (v := 1) hC dX10_by_107 ic1 ?_
            refine aw_iadd (pc := 108) hC dX10_by_108 ?_
            exact aw_iretR hC dX10_by_109
      · skip
        refine aw_ldcw (pc := 70) hC kw1753 dX10_by_70 ?_
        exact aw_iretR hC dX10_by_73
    · skip
      refine aw_icmp_ne (pc := 26) (tgt := 33) hC dX10_by_26 (by decide) (fun _ => ?_) (fun _ => ?_)
      · skip
        refine aw_iconst (pc := 29) (v := 1) hC dX10_by_29 ic1 ?_
        refine aw_goto (pc := 30) (tgt := 34) hC dX10_by_30 (by decide) ?_
        exact hJ34 1
      · skip
        refine aw_iconst (pc := 33) (v := 0) hC dX10_by_33 ic0 ?_
        exact hJ34 0
  · skip
    refine aw_ldcw (pc := 70) hC kw1753 dX10_by_70 ?_
    exact aw_iretR hC dX10_by_73
theorem dX10_lodge_0 : decode cX10_lodge 0 = .ok (.aload_n 0, 1) := by decide +kernel
theorem dX10_lodge_1 : decode cX10_lodge 1 = .ok (.iconst 0, 1) := by decide +kernel
theorem dX10_lodge_2 : decode cX10_lodge 2 = .ok (.putfield 42, 3) := by decide +kernel
theorem dX10_lodge_5 : decode cX10_lodge 5 = .ok (.aload_n 0, 1) := by decide +kernel
theorem dX10_lodge_6 : decode cX10_lodge 6 = .ok (.iconst 0, 1) := by decide +kernel
theorem dX10_lodge_7 : decode cX10_lodge 7 = .ok (.putfield 309, 3) := by decide +kernel
theorem dX10_lodge_10 : decode cX10_lodge 10 = .ok (.iconst 0, 1) := by decide +kernel
theorem dX10_lodge_11 : decode cX10_lodge 11 = .ok (.istore_n 2, 1) := by decide +kernel
theorem dX10_lodge_12 : decode cX10_lodge 12 = .ok (.iload_n 2, 1) := by decide +kernel
theorem dX10_lodge_13 : decode cX10_lodge 13 = .ok (.aload_n 0, 1) := by decide +kernel
theorem dX10_lodge_14 : decode cX10_lodge 14 = .ok (.getfield 7, 3) := by decide +kernel
theorem dX10_lodge_17 : decode cX10_lodge 17 = .ok (.iconst 3, 1) := by decide +kernel
theorem dX10_lodge_18 : decode cX10_lodge 18 = .ok (.iaload, 1) := by decide +kernel
theorem dX10_lodge_19 : decode cX10_lodge 19 = .ok (.if_icmp .ge 40, 3) := by decide +kernel
theorem dX10_lodge_22 : decode cX10_lodge 22 = .ok (.aload_n 0, 1) := by decide +kernel
theorem dX10_lodge_23 : decode cX10_lodge 23 = .ok (.iload_n 2, 1) := by decide +kernel
theorem dX10_lodge_24 : decode cX10_lodge 24 = .ok (.invokevirtual 236, 3) := by decide +kernel
theorem dX10_lodge_27 : decode cX10_lodge 27 = .ok (.ifCond .ne 6, 3) := by decide +kernel
theorem dX10_lodge_30 : decode cX10_lodge 30 = .ok (.goto 23, 3) := by decide +kernel
theorem dX10_lodge_33 : decode cX10_lodge 33 = .ok (.aload_n 0, 1) := by decide +kernel
theorem dX10_lodge_34 : decode cX10_lodge 34 = .ok (.getfield 32, 3) := by decide +kernel
theorem dX10_lodge_37 : decode cX10_lodge 37 = .ok (.aload_n 0, 1) := by decide +kernel
theorem dX10_lodge_38 : decode cX10_lodge 38 = .ok (.getfield 309, 3) := by decide +kernel
theorem dX10_lodge_41 : decode cX10_lodge 41 = .ok (.iload_n 2, 1) := by decide +kernel
theorem dX10_lodge_42 : decode cX10_lodge 42 = .ok (.iastore, 1) := by decide +kernel
theorem dX10_lodge_43 : decode cX10_lodge 43 = .ok (.aload_n 0, 1) := by decide +kernel
theorem dX10_lodge_44 : decode cX10_lodge 44 = .ok (.dup, 1) := by decide +kernel
theorem dX10_lodge_45 : decode cX10_lodge 45 = .ok (.getfield 309, 3) := by decide +kernel
theorem dX10_lodge_48 : decode cX10_lodge 48 = .ok (.iconst 1, 1) := by decide +kernel
theorem dX10_lodge_49 : decode cX10_lodge 49 = .ok (.iadd, 1) := by decide +kernel
theorem dX10_lodge_50 : decode cX10_lodge 50 = .ok (.putfield 309, 3) := by decide +kernel
theorem dX10_lodge_53 : decode cX10_lodge 53 = .ok (.iinc 2 1, 3) := by decide +kernel
theorem dX10_lodge_56 : decode cX10_lodge 56 = .ok (.goto (-44), 3) := by decide +kernel
theorem dX10_lodge_59 : decode cX10_lodge 59 = .ok (.aload_n 0, 1) := by decide +kernel
theorem dX10_lodge_60 : decode cX10_lodge 60 = .ok (.getfield 309, 3) := by decide +kernel
theorem dX10_lodge_63 : decode cX10_lodge 63 = .ok (.istore_n 2, 1) := by decide +kernel
theorem dX10_lodge_64 : decode cX10_lodge 64 = .ok (.iload_n 2, 1) := by decide +kernel
theorem dX10_lodge_65 : decode cX10_lodge 65 = .ok (.ifCond .lt 94, 3) := by decide +kernel
theorem dX10_lodge_68 : decode cX10_lodge 68 = .ok (.iconst 0, 1) := by decide +kernel
theorem dX10_lodge_69 : decode cX10_lodge 69 = .ok (.istore_n 3, 1) := by decide +kernel
theorem dX10_lodge_70 : decode cX10_lodge 70 = .ok (.iload_n 3, 1) := by decide +kernel
theorem dX10_lodge_71 : decode cX10_lodge 71 = .ok (.sipush 256, 3) := by decide +kernel
theorem dX10_lodge_74 : decode cX10_lodge 74 = .ok (.if_icmp .ge 79, 3) := by decide +kernel
theorem dX10_lodge_77 : decode cX10_lodge 77 = .ok (.iload_n 2, 1) := by decide +kernel
theorem dX10_lodge_78 : decode cX10_lodge 78 = .ok (.aload_n 0, 1) := by decide +kernel
theorem dX10_lodge_79 : decode cX10_lodge 79 = .ok (.getfield 309, 3) := by decide +kernel
theorem dX10_lodge_82 : decode cX10_lodge 82 = .ok (.if_icmp .ne 7, 3) := by decide +kernel
theorem dX10_lodge_85 : decode cX10_lodge 85 = .ok (.iconst 0, 1) := by decide +kernel
theorem dX10_lodge_86 : decode cX10_lodge 86 = .ok (.goto 6, 3) := by decide +kernel
theorem dX10_lodge_89 : decode cX10_lodge 89 = .ok (.ldc_w 308, 3) := by decide +kernel
theorem dX10_lodge_92 : decode cX10_lodge 92 = .ok (.istore 4, 2) := by decide +kernel
theorem dX10_lodge_94 : decode cX10_lodge 94 = .ok (.iconst 0, 1) := by decide +kernel
theorem dX10_lodge_95 : decode cX10_lodge 95 = .ok (.istore 5, 2) := by decide +kernel
theorem dX10_lodge_97 : decode cX10_lodge 97 = .ok (.iload 5, 2) := by decide +kernel
theorem dX10_lodge_99 : decode cX10_lodge 99 = .ok (.bipush 8, 2) := by decide +kernel
theorem dX10_lodge_101 : decode cX10_lodge 101 = .ok (.if_icmp .ge 32, 3) := by decide +kernel
theorem dX10_lodge_104 : decode cX10_lodge 104 = .ok (.iload_n 2, 1) := by decide +kernel
theorem dX10_lodge_105 : decode cX10_lodge 105 = .ok (.aload_n 0, 1) := by decide +kernel
theorem dX10_lodge_106 : decode cX10_lodge 106 = .ok (.getfield 309, 3) := by decide +kernel
theorem dX10_lodge_109 : decode cX10_lodge 109 = .ok (.if_icmp .ge 24, 3) := by decide +kernel
theorem dX10_lodge_112 : decode cX10_lodge 112 = .ok (.iload 4, 2) := by decide +kernel
theorem dX10_lodge_114 : decode cX10_lodge 114 = .ok (.aload_n 0, 1) := by decide +kernel
theorem dX10_lodge_115 : decode cX10_lodge 115 = .ok (.iload_n 2, 1) := by decide +kernel
theorem dX10_lodge_116 : decode cX10_lodge 116 = .ok (.iload_n 3, 1) := by decide +kernel
theorem dX10_lodge_117 : decode cX10_lodge 117 = .ok (.iload 5, 2) := by decide +kernel
theorem dX10_lodge_119 : decode cX10_lodge 119 = .ok (.invokevirtual 312, 3) := by decide +kernel
theorem dX10_lodge_122 : decode cX10_lodge 122 = .ok (.invokestatic 243, 3) := by decide +kernel
theorem dX10_lodge_125 : decode cX10_lodge 125 = .ok (.istore 4, 2) := by decide +kernel
theorem dX10_lodge_127 : decode cX10_lodge 127 = .ok (.iinc 5 1, 3) := by decide +kernel
theorem dX10_lodge_130 : decode cX10_lodge 130 = .ok (.goto (-33), 3) := by decide +kernel
theorem dX10_lodge_133 : decode cX10_lodge 133 = .ok (.aload_n 0, 1) := by decide +kernel
theorem dX10_lodge_134 : decode cX10_lodge 134 = .ok (.getfield 35, 3) := by decide +kernel
theorem dX10_lodge_137 : decode cX10_lodge 137 = .ok (.sipush 256, 3) := by decide +kernel
theorem dX10_lodge_140 : decode cX10_lodge 140 = .ok (.iload_n 2, 1) := by decide +kernel
theorem dX10_lodge_141 : decode cX10_lodge 141 = .ok (.imul, 1) := by decide +kernel
theorem dX10_lodge_142 : decode cX10_lodge 142 = .ok (.iload_n 3, 1) := by decide +kernel
theorem dX10_lodge_143 : decode cX10_lodge 143 = .ok (.iadd, 1) := by decide +kernel
theorem dX10_lodge_144 : decode cX10_lodge 144 = .ok (.iload 4, 2) := by decide +kernel
theorem dX10_lodge_146 : decode cX10_lodge 146 = .ok (.iastore, 1) := by decide +kernel
theorem dX10_lodge_147 : decode cX10_lodge 147 = .ok (.iinc 3 1, 3) := by decide +kernel
theorem dX10_lodge_150 : decode cX10_lodge 150 = .ok (.goto (-80), 3) := by decide +kernel
theorem dX10_lodge_153 : decode cX10_lodge 153 = .ok (.iinc 2 (-1), 3) := by decide +kernel
theorem dX10_lodge_156 : decode cX10_lodge 156 = .ok (.goto (-92), 3) := by decide +kernel
theorem dX10_lodge_159 : decode cX10_lodge 159 = .ok (.aload_n 0, 1) := by decide +kernel
theorem dX10_lodge_160 : decode cX10_lodge 160 = .ok (.getfield 35, 3) := by decide +kernel
theorem dX10_lodge_163 : decode cX10_lodge 163 = .ok (.iconst 0, 1) := by decide +kernel
theorem dX10_lodge_164 : decode cX10_lodge 164 = .ok (.iaload, 1) := by decide +kernel
theorem dX10_lodge_165 : decode cX10_lodge 165 = .ok (.ldc_w 308, 3) := by decide +kernel
theorem dX10_lodge_168 : decode cX10_lodge 168 = .ok (.if_icmp .ne 5, 3) := by decide +kernel
theorem dX10_lodge_171 : decode cX10_lodge 171 = .ok (.iconst (-1), 1) := by decide +kernel
theorem dX10_lodge_172 : decode cX10_lodge 172 = .ok (.ireturn, 1) := by decide +kernel
theorem dX10_lodge_173 : decode cX10_lodge 173 = .ok (.iload_n 1, 1) := by decide +kernel
theorem dX10_lodge_174 : decode cX10_lodge 174 = .ok (.iconst (-1), 1) := by decide +kernel
theorem dX10_lodge_175 : decode cX10_lodge 175 = .ok (.if_icmp .ne 10, 3) := by decide +kernel
theorem dX10_lodge_178 : decode cX10_lodge 178 = .ok (.aload_n 0, 1) := by decide +kernel
theorem dX10_lodge_179 : decode cX10_lodge 179 = .ok (.getfield 35, 3) := by decide +kernel
theorem dX10_lodge_182 : decode cX10_lodge 182 = .ok (.iconst 0, 1) := by decide +kernel
theorem dX10_lodge_183 : decode cX10_lodge 183 = .ok (.iaload, 1) := by decide +kernel
theorem dX10_lodge_184 : decode cX10_lodge 184 = .ok (.ireturn, 1) := by decide +kernel
theorem dX10_lodge_185 : decode cX10_lodge 185 = .ok (.iload_n 1, 1) := by decide +kernel
theorem dX10_lodge_186 : decode cX10_lodge 186 = .ok (.iconst 0, 1) := by decide +kernel
theorem dX10_lodge_187 : decode cX10_lodge 187 = .ok (.aload_n 0, 1) := by decide +kernel
theorem dX10_lodge_188 : decode cX10_lodge 188 = .ok (.getfield 309, 3) := by decide +kernel
theorem dX10_lodge_191 : decode cX10_lodge 191 = .ok (.iconst 1, 1) := by decide +kernel
theorem dX10_lodge_192 : decode cX10_lodge 192 = .ok (.isub, 1) := by decide +kernel
theorem dX10_lodge_193 : decode cX10_lodge 193 = .ok (.invokestatic 45, 3) := by decide +kernel
theorem dX10_lodge_196 : decode cX10_lodge 196 = .ok (.ifCond .ne 5, 3) := by decide +kernel
theorem dX10_lodge_199 : decode cX10_lodge 199 = .ok (.iconst (-1), 1) := by decide +kernel
theorem dX10_lodge_200 : decode cX10_lodge 200 = .ok (.ireturn, 1) := by decide +kernel
theorem dX10_lodge_201 : decode cX10_lodge 201 = .ok (.iconst 0, 1) := by decide +kernel
theorem dX10_lodge_202 : decode cX10_lodge 202 = .ok (.istore_n 2, 1) := by decide +kernel
theorem dX10_lodge_203 : decode cX10_lodge 203 = .ok (.iconst 0, 1) := by decide +kernel
theorem dX10_lodge_204 : decode cX10_lodge 204 = .ok (.istore_n 3, 1) := by decide +kernel
theorem dX10_lodge_205 : decode cX10_lodge 205 = .ok (.iconst 0, 1) := by decide +kernel
theorem dX10_lodge_206 : decode cX10_lodge 206 = .ok (.istore 4, 2) := by decide +kernel
theorem dX10_lodge_208 : decode cX10_lodge 208 = .ok (.iload 4, 2) := by decide +kernel
theorem dX10_lodge_210 : decode cX10_lodge 210 = .ok (.iload_n 1, 1) := by decide +kernel
theorem dX10_lodge_211 : decode cX10_lodge 211 = .ok (.if_icmp .gt 47, 3) := by decide +kernel
theorem dX10_lodge_214 : decode cX10_lodge 214 = .ok (.iconst 0, 1) := by decide +kernel
theorem dX10_lodge_215 : decode cX10_lodge 215 = .ok (.istore_n 3, 1) := by decide +kernel
theorem dX10_lodge_216 : decode cX10_lodge 216 = .ok (.aload_n 0, 1) := by decide +kernel
theorem dX10_lodge_217 : decode cX10_lodge 217 = .ok (.iload 4, 2) := by decide +kernel
theorem dX10_lodge_219 : decode cX10_lodge 219 = .ok (.iload_n 2, 1) := by decide +kernel
theorem dX10_lodge_220 : decode cX10_lodge 220 = .ok (.iload_n 3, 1) := by decide +kernel
theorem dX10_lodge_221 : decode cX10_lodge 221 = .ok (.invokevirtual 312, 3) := by decide +kernel
theorem dX10_lodge_224 : decode cX10_lodge 224 = .ok (.aload_n 0, 1) := by decide +kernel
theorem dX10_lodge_225 : decode cX10_lodge 225 = .ok (.getfield 35, 3) := by decide +kernel
theorem dX10_lodge_228 : decode cX10_lodge 228 = .ok (.sipush 256, 3) := by decide +kernel
theorem dX10_lodge_231 : decode cX10_lodge 231 = .ok (.iload 4, 2) := by decide +kernel
theorem dX10_lodge_233 : decode cX10_lodge 233 = .ok (.imul, 1) := by decide +kernel
theorem dX10_lodge_234 : decode cX10_lodge 234 = .ok (.iload_n 2, 1) := by decide +kernel
theorem dX10_lodge_235 : decode cX10_lodge 235 = .ok (.iadd, 1) := by decide +kernel
theorem dX10_lodge_236 : decode cX10_lodge 236 = .ok (.iaload, 1) := by decide +kernel
theorem dX10_lodge_237 : decode cX10_lodge 237 = .ok (.if_icmp .eq 9, 3) := by decide +kernel
theorem dX10_lodge_240 : decode cX10_lodge 240 = .ok (.iinc 3 1, 3) := by decide +kernel
theorem dX10_lodge_243 : decode cX10_lodge 243 = .ok (.goto (-27), 3) := by decide +kernel
theorem dX10_lodge_246 : decode cX10_lodge 246 = .ok (.iload_n 2, 1) := by decide +kernel
theorem dX10_lodge_247 : decode cX10_lodge 247 = .ok (.iconst 1, 1) := by decide +kernel
theorem dX10_lodge_248 : decode cX10_lodge 248 = .ok (.iload_n 3, 1) := by decide +kernel
theorem dX10_lodge_249 : decode cX10_lodge 249 = .ok (.ishl, 1) := by decide +kernel
theorem dX10_lodge_250 : decode cX10_lodge 250 = .ok (.ior, 1) := by decide +kernel
theorem dX10_lodge_251 : decode cX10_lodge 251 = .ok (.istore_n 2, 1) := by decide +kernel
theorem dX10_lodge_252 : decode cX10_lodge 252 = .ok (.iinc 4 1, 3) := by decide +kernel
theorem dX10_lodge_255 : decode cX10_lodge 255 = .ok (.goto (-47), 3) := by decide +kernel
theorem dX10_lodge_258 : decode cX10_lodge 258 = .ok (.iload_n 3, 1) := by decide +kernel
theorem dX10_lodge_259 : decode cX10_lodge 259 = .ok (.ireturn, 1) := by decide +kernel
def lp_X10_lodge_12 (k59 : Mem → Option (Int32 × Mem)) : Nat → Int32 → Mem → Option (Int32 × Mem)
  | 0, _, _ => none
  | n + 1, x4, μ5 => ix 3 704 (if (μ5 0 13 (Int32.toNatClampNeg 3)) ≤ x4 then (k59 μ5) else ((f_X10_isHere μ5 x4).bind fun (q6 : Int32) => if q6 = 0 then (lp_X10_lodge_12 k59 n (x4 + 1) μ5) else (ix (μ5 0 12 19) 8 (nm (upm μ5 0 19 (μ5 0 12 19).toNatClampNeg x4) fun (μ7 : Mem) => nm (upm μ7 0 12 19 ((μ7 0 12 19) + 1)) fun (μ8 : Mem) => lp_X10_lodge_12 k59 n (x4 + 1) μ8))))
def lp_X10_lodge_97 (x10 : Int32) (x13 : Int32) (μ14 : Mem) (k133 : Int32 → Option (Int32 × Mem)) : Nat → Int32 → Int32 → Option (Int32 × Mem)
  | 0, _, _ => none
  | n + 1, x17, x18 => if 8 ≤ x18 then (k133 x17) else (if (μ14 0 12 19) ≤ x10 then (k133 x17) else ((f_X10_by μ14 x10 x13 x18).bind fun (q19 : Int32) => (f_X10_lesser x17 q19).bind fun (q20 : Int32) => lp_X10_lodge_97 x10 x13 μ14 k133 n q20 (x18 + 1)))
def lp_X10_lodge_70 (x10 : Int32) (k153 : Mem → Option (Int32 × Mem)) : Nat → Int32 → Mem → Option (Int32 × Mem)
  | 0, _, _ => none
  | n + 1, x13, μ14 => if 256 ≤ x13 then (k153 μ14) else (nm (fun (x15 : Int32) => lp_X10_lodge_97 x10 x13 μ14 (fun (x16 : Int32) => ix ((256 * x10) + x13) 2304 (nm (upm μ14 0 20 ((256 * x10) + x13).toNatClampNeg x16) fun (μ21 : Mem) => lp_X10_lodge_70 x10 k153 n (x13 + 1) μ21)) 4096 x15 0) fun (J92 : Int32 → Option (Int32 × Mem)) => if x10 = (μ14 0 12 19) then (J92 0) else (J92 2000000000))
def lp_X10_lodge_64 (k159 : Mem → Option (Int32 × Mem)) : Nat → Int32 → Mem → Option (Int32 × Mem)
  | 0, _, _ => none
  | n + 1, x10, μ11 => if x10 < 0 then (k159 μ11) else (lp_X10_lodge_70 x10 (fun (μ12 : Mem) => lp_X10_lodge_64 k159 n (x10 + (-1)) μ12) 4096 0 μ11)
def lp_X10_lodge_216 (μ9 : Mem) (x23 : Int32) (x25 : Int32) (k246 : Int32 → Option (Int32 × Mem)) : Nat → Int32 → Option (Int32 × Mem)
  | 0, _ => none
  | n + 1, x27 => (f_X10_by μ9 x25 x23 x27).bind fun (q28 : Int32) => ix ((256 * x25) + x23) 2304 (if q28 = (μ9 0 20 ((256 * x25) + x23).toNatClampNeg) then (k246 x27) else (lp_X10_lodge_216 μ9 x23 x25 k246 n (x27 + 1)))
def lp_X10_lodge_208 (a1 : Int32) (μ9 : Mem) : Nat → Int32 → Int32 → Int32 → Option (Int32 × Mem)
  | 0, _, _, _ => none
  | n + 1, x23, x24, x25 => if a1 < x25 then (some (x24, μ9)) else (lp_X10_lodge_216 μ9 x23 x25 (fun (x26 : Int32) => lp_X10_lodge_208 a1 μ9 n (x23 ||| (jshl 1 x26)) x26 (x25 + 1)) 4096 0)
def f_X10_lodge (μ : Mem) (a1 : Int32) : Option (Int32 × Mem) := nm (upm μ 0 12 0 0) fun (μ1 : Mem) => nm (upm μ1 0 12 19 0) fun (μ2 : Mem) => lp_X10_lodge_12 (fun (μ3 : Mem) => lp_X10_lodge_64 (fun (μ9 : Mem) => ix 0 2304 (if (μ9 0 20 (Int32.toNatClampNeg 0)) = 2000000000 then (some ((-1), μ9)) else (if a1 = (-1) then (ix 0 2304 (some ((μ9 0 20 (Int32.toNatClampNeg 0)), μ9))) else ((f_X10_isIn a1 0 ((μ9 0 12 19) - 1)).bind fun (q22 : Int32) => if q22 = 0 then (some ((-1), μ9)) else (lp_X10_lodge_208 a1 μ9 4096 0 0 0))))) 4096 (μ3 0 12 19) μ3) 4096 0 μ2
set_option maxHeartbeats 4000000 in
set_option maxRecDepth 100000 in
theorem c_X10_lodge (G : GG) (l : Launch) (μ : Mem) (a1 : Int32) : CI G l yX10_lodge (.code yX10_lodge cX10_lodge 6 (some .int)) 5 [.ref (gad G 0 12), .int a1] μ (f_X10_lodge μ a1) := by
  refine CI.of (own := "SaturdayKeepModel") (L0 := [some (.ref (gad G 0 12)), some (.int a1), none, none, none, none]) rfl rfl rfl (Nat.le_of_ble_eq_true rfl) (fun C hl hC => ?_)
  subst hl
  delta f_X10_lodge
  refine aw_aload_n (pc := 0) (i := 0) hC dX10_lodge_0 rfl rfl ?_
  refine aw_iconst (pc := 1) (v := 0) hC dX10_lodge_1 ic0 ?_
  refine aw_putIN (pc := 2) hC inX10 (v0 (j := 12) (by decide)) rfl rfl 0 (by decide) kw1314 rfl tyX10 tyX10_ok nmX10 rfl rfl (Nat.le_of_ble_eq_true rfl) rfl dX10_lodge_2 (fun μ1 => ?_)
  refine aw_aload_n (pc := 5) (i := 0) hC dX10_lodge_5 rfl rfl ?_
  refine aw_iconst (pc := 6) (v := 0) hC dX10_lodge_6 ic0 ?_
  refine aw_putIN (pc := 7) hC inX10 (v0 (j := 12) (by decide)) rfl rfl 19 (by decide) kw1333 rfl tyX10 tyX10_ok nmX10 rfl rfl (Nat.le_of_ble_eq_true rfl) rfl dX10_lodge_7 (fun μ2 => ?_)
  refine aw_iconst (pc := 10) (v := 0) hC dX10_lodge_10 ic0 ?_
  refine aw_istore_n (pc := 11) (i := 2) hC dX10_lodge_11 rfl rfl (by decide) ?_
  have hL12 : ∀ (k59 : Mem → Option (Int32 × Mem)) (hk59 : ∀ (μ3 : Mem), AW G C (qI G C 0 0) 0 0 6 μ3 59 [some (.ref (gad G 0 12)), some (.int a1), none, none, none, none] [] (k59 μ3)) (n : Nat) (x4 : Int32) (μ5 : Mem), AW G C (qI G C 0 0) 0 0 6 μ5 12 [some (.ref (gad G 0 12)), some (.int a1), some (.int x4), none, none, none] [] (lp_X10_lodge_12 k59 n x4 μ5) := by
    intro k59 hk59 n
    induction n with
    | zero => intro x4 μ5; exact aw_none
    | succ n ih =>
      intro x4 μ5
      rw [lp_X10_lodge_12]
      refine aw_iload_n (pc := 12) (i := 2) hC dX10_lodge_12 rfl rfl ?_
      refine aw_aload_n (pc := 13) (i := 0) hC dX10_lodge_13 rfl rfl ?_
      refine aw_get (pc := 14) hC inX10 (v0 (j := 12) (by decide)) rfl rfl 1 (by decide) kw1315 rfl rfl dX10_lodge_14 ?_
      refine aw_iconst (pc := 17) (v := 3) hC dX10_lodge_17 ic3 ?_
      refine aw_iaload (pc := 18) hC (v0 (j := 13) (by decide)) rfl dX10_lodge_18 ?_
      refine aw_icmp_ge (pc := 19) (tgt := 59) hC dX10_lodge_19 (by decide) (fun _ => ?_) (fun _ => ?_)
      · skip
        exact aw_drop [2] (hk59 μ5)
      · skip
        refine aw_aload_n (pc := 22) (i := 0) hC dX10_lodge_22 rfl rfl ?_
        refine aw_iload_n (pc := 23) (i := 2) hC dX10_lodge_23 rfl rfl ?_
        refine aw_callVR (pc := 24) (As := [.int x4]) hC mb_X10_isHere kw1558 (by decide) (c_X10_isHere G C.2.1   μ5 x4) (v0 (j := 12) (by decide)) rfl rfl rfl (Nat.le_of_ble_eq_true rfl) dX10_lodge_24 (fun q6 => ?_)
        refine aw_if_ne (pc := 27) (tgt := 33) hC dX10_lodge_27 (by decide) (fun _ => ?_) (fun _ => ?_)
        · skip
          refine aw_goto (pc := 30) (tgt := 53) hC dX10_lodge_30 (by decide) ?_
          refine aw_iinc (pc := 53) (v := x4 + 1) hC dX10_lodge_53 rfl (congrArg (HAdd.hAdd _) ic1) rfl (by decide) ?_
          refine aw_goto (pc := 56) (tgt := 12) hC dX10_lodge_56 (by decide) ?_
          exact ih (x4 + 1) μ5
        · skip
          refine aw_aload_n (pc := 33) (i := 0) hC dX10_lodge_33 rfl rfl ?_
          refine aw_get (pc := 34) hC inX10 (v0 (j := 12) (by decide)) rfl rfl 18 (by decide) kw1332 rfl rfl dX10_lodge_34 ?_
          refine aw_aload_n (pc := 37) (i := 0) hC dX10_lodge_37 rfl rfl ?_
          refine aw_get (pc := 38) hC inX10 (v0 (j := 12) (by decide)) rfl rfl 19 (by decide) kw1333 rfl rfl dX10_lodge_38 ?_
          refine aw_iload_n (pc := 41) (i := 2) hC dX10_lodge_41 rfl rfl ?_
          refine aw_iastoreN (pc := 42) hC (v0 (j := 19) (by decide)) (fun _ => rfl) dX10_lodge_42 (fun μ7 => ?_)
          refine aw_aload_n (pc := 43) (i := 0) hC dX10_lodge_43 rfl rfl ?_
          refine aw_dup (pc := 44) hC dX10_lodge_44 rfl ?_
          refine aw_get (pc := 45) hC inX10 (v0 (j := 12) (by decide)) rfl rfl 19 (by decide) kw1333 rfl rfl dX10_lodge_45 ?_
          refine aw_iconst (pc := 48) (v := 1) hC dX10_lodge_48 ic1 ?_
          refine aw_iadd (pc := 49) hC dX10_lodge_49 ?_
          refine aw_putIN (pc := 50) hC inX10 (v0 (j := 12) (by decide)) rfl rfl 19 (by decide) kw1333 rfl tyX10 tyX10_ok nmX10 rfl rfl (Nat.le_of_ble_eq_true rfl) rfl dX10_lodge_50 (fun μ8 => ?_)
          refine aw_iinc (pc := 53) (v := x4 + 1) hC dX10_lodge_53 rfl (congrArg (HAdd.hAdd _) ic1) rfl (by decide) ?_
          refine aw_goto (pc := 56) (tgt := 12) hC dX10_lodge_56 (by decide) ?_
          exact ih (x4 + 1) μ8
  refine hL12 (fun (μ3 : Mem) => lp_X10_lodge_64 (fun (μ9 : Mem) => ix 0 2304 (if (μ9 0 20 (Int32.toNatClampNeg 0)) = 2000000000 then (some ((-1), μ9)) else (if a1 = (-1) then (ix 0 2304 (some ((μ9 0 20 (Int32.toNatClampNeg 0)), μ9))) else ((f_X10_isIn a1 0 ((μ9 0 12 19) - 1)).bind fun (q22 : Int32) => if q22 = 0 then (some ((-1), μ9)) else (lp_X10_lodge_208 a1 μ9 4096 0 0 0))))) 4096 (μ3 0 12 19) μ3) (fun μ3 => ?_) 4096 0 μ2
  · skip
    refine aw_aload_n (pc := 59) (i := 0) hC dX10_lodge_59 rfl rfl ?_
    refine aw_get (pc := 60) hC inX10 (v0 (j := 12) (by decide)) rfl rfl 19 (by decide) kw1333 rfl rfl dX10_lodge_60 ?_
    refine aw_istore_n (pc := 63) (i := 2) hC dX10_lodge_63 rfl rfl (by decide) ?_
    have hL64 : ∀ (k159 : Mem → Option (Int32 × Mem)) (hk159 : ∀ (μ9 : Mem), AW G C (qI G C 0 0) 0 0 6 μ9 159 [some (.ref (gad G 0 12)), some (.int a1), none, none, none, none] [] (k159 μ9)) (n : Nat) (x10 : Int32) (μ11 : Mem), AW G C (qI G C 0 0) 0 0 6 μ11 64 [some (.ref (gad G 0 12)), some (.int a1), some (.int x10), none, none, none] [] (lp_X10_lodge_64 k159 n x10 μ11) := by
      intro k159 hk159 n
      induction n with
      | zero => intro x10 μ11; exact aw_none
      | succ n ih =>
        intro x10 μ11
        rw [lp_X10_lodge_64]
        refine aw_iload_n (pc := 64) (i := 2) hC dX10_lodge_64 rfl rfl ?_
        refine aw_if_lt (pc := 65) (tgt := 159) hC dX10_lodge_65 (by decide) (fun _ => ?_) (fun _ => ?_)
        · skip
          exact aw_drop [2] (hk159 μ11)
        · skip
          refine aw_iconst (pc := 68) (v := 0) hC dX10_lodge_68 ic0 ?_
          refine aw_istore_n (pc := 69) (i := 3) hC dX10_lodge_69 rfl rfl (by decide) ?_
          have hL70 : ∀ (k153 : Mem → Option (Int32 × Mem)) (hk153 : ∀ (μ12 : Mem), AW G C (qI G C 0 0) 0 0 6 μ12 153 [some (.ref (gad G 0 12)), some (.int a1), some (.int x10), none, none, none] [] (k153 μ12)) (n : Nat) (x13 : Int32) (μ14 : Mem), AW G C (qI G C 0 0) 0 0 6 μ14 70 [some (.ref (gad G 0 12)), some (.int a1), some (.int x10), some (.int x13), none, none] [] (lp_X10_lodge_70 x10 k153 n x13 μ14) := by
            intro k153 hk153 n
            induction n with
            | zero => intro x13 μ14; exact aw_none
            | succ n ih =>
              intro x13 μ14
              rw [lp_X10_lodge_70]
              refine aw_iload_n (pc := 70) (i := 3) hC dX10_lodge_70 rfl rfl ?_
              refine aw_sipush (pc := 71) (v := 256) hC dX10_lodge_71 sc256 ?_
              refine aw_icmp_ge (pc := 74) (tgt := 153) hC dX10_lodge_74 (by decide) (fun _ => ?_) (fun _ => ?_)
              · skip
                exact aw_drop [3] (hk153 μ14)
              · skip
                refine aw_iload_n (pc := 77) (i := 2) hC dX10_lodge_77 rfl rfl ?_
                refine aw_aload_n (pc := 78) (i := 0) hC dX10_lodge_78 rfl rfl ?_
                refine aw_get (pc := 79) hC inX10 (v0 (j := 12) (by decide)) rfl rfl 19 (by decide) kw1333 rfl rfl dX10_lodge_79 ?_
                refine aw_nmJ (fun (J92 : Int32 → Option (Int32 × Mem)) => ∀ (x15 : Int32), AW G C (qI G C 0 0) 0 0 6 μ14 92 [some (.ref (gad G 0 12)), some (.int a1), some (.int x10), some (.int x13), none, none] [.int x15] (J92 x15)) (fun x15 => ?_) (fun J92 hJ92 => ?_)
                · skip
                  refine aw_istore (pc := 92) hC dX10_lodge_92 rfl (by decide) ?_
                  refine aw_iconst (pc := 94) (v := 0) hC dX10_lodge_94 ic0 ?_
                  refine aw_istore (pc := 95) hC dX10_lodge_95 rfl (by decide) ?_
                  have hL97 : ∀ (k133 : Int32 → Option (Int32 × Mem)) (hk133 : ∀ (x16 : Int32), AW G C (qI G C 0 0) 0 0 6 μ14 133 [some (.ref (gad G 0 12)), some (.int a1), some (.int x10), some (.int x13), some (.int x16), none] [] (k133 x16)) (n : Nat) (x17 : Int32) (x18 : Int32), AW G C (qI G C 0 0) 0 0 6 μ14 97 [some (.ref (gad G 0 12)), some (.int a1), some (.int x10), some (.int x13), some (.int x17), some (.int x18)] [] (lp_X10_lodge_97 x10 x13 μ14 k133 n x17 x18) := by
                    intro k133 hk133 n
                    induction n with
                    | zero => intro x17 x18; exact aw_none
                    | succ n ih =>
                      intro x17 x18
                      rw [lp_X10_lodge_97]
                      refine aw_iload (pc := 97) hC dX10_lodge_97 rfl ?_
                      refine aw_bipush (pc := 99) (v := 8) hC dX10_lodge_99 bc8 ?_
                      refine aw_icmp_ge (pc := 101) (tgt := 133) hC dX10_lodge_101 (by decide) (fun _ => ?_) (fun _ => ?_)
                      · skip
                        exact aw_drop [5] (hk133 x17)
                      · skip
                        refine aw_iload_n (pc := 104) (i := 2) hC dX10_lodge_104 rfl rfl ?_
                        refine aw_aload_n (pc := 105) (i := 0) hC dX10_lodge_105 rfl rfl ?_
                        refine aw_get (pc := 106) hC inX10 (v0 (j := 12) (by decide)) rfl rfl 19 (by decide) kw1333 rfl rfl dX10_lodge_106 ?_
                        refine aw_icmp_ge (pc := 109) (tgt := 133) hC dX10_lodge_109 (by decide) (fun _ => ?_) (fun _ => ?_)
                        · skip
                          exact aw_drop [5] (hk133 x17)
                        · skip
                          refine aw_iload (pc := 112) hC dX10_lodge_112 rfl ?_
                          refine aw_aload_n (pc := 114) (i := 0) hC dX10_lodge_114 rfl rfl ?_
                          refine aw_iload_n (pc := 115) (i := 2) hC dX10_lodge_115 rfl rfl ?_
                          refine aw_iload_n (pc := 116) (i := 3) hC dX10_lodge_116 rfl rfl ?_
                          refine aw_iload (pc := 117) hC dX10_lodge_117 rfl ?_
                          refine aw_callVR (pc := 119) (As := [.int x10, .int x13, .int x18]) hC mb_X10_by kw1754 (by decide) (c_X10_by G C.2.1   μ14 x10 x13 x18) (v0 (j := 12) (by decide)) rfl rfl rfl (Nat.le_of_ble_eq_true rfl) dX10_lodge_119 (fun q19 => ?_)
                          refine aw_callSR (pc := 122) (As := [.int x17, .int q19]) hC ms_X10_lesser kw1648 (by decide) (c_X10_lesser G C.2.1   μ14 x17 q19) rfl (Nat.le_of_ble_eq_true rfl) dX10_lodge_122 (fun q20 => ?_)
                          refine aw_istore (pc := 125) hC dX10_lodge_125 rfl (by decide) ?_
                          refine aw_iinc (pc := 127) (v := x18 + 1) hC dX10_lodge_127 rfl (congrArg (HAdd.hAdd _) ic1) rfl (by decide) ?_
                          refine aw_goto (pc := 130) (tgt := 97) hC dX10_lodge_130 (by decide) ?_
                          exact ih q20 (x18 + 1)
                  refine hL97 (fun (x16 : Int32) => ix ((256 * x10) + x13) 2304 (nm (upm μ14 0 20 ((256 * x10) + x13).toNatClampNeg x16) fun (μ21 : Mem) => lp_X10_lodge_70 x10 k153 n (x13 + 1) μ21)) (fun x16 => ?_) 4096 x15 0
                  · skip
                    refine aw_aload_n (pc := 133) (i := 0) hC dX10_lodge_133 rfl rfl ?_
                    refine aw_get (pc := 134) hC inX10 (v0 (j := 12) (by decide)) rfl rfl 20 (by decide) kw1334 rfl rfl dX10_lodge_134 ?_
                    refine aw_sipush (pc := 137) (v := 256) hC dX10_lodge_137 sc256 ?_
                    refine aw_iload_n (pc := 140) (i := 2) hC dX10_lodge_140 rfl rfl ?_
                    refine aw_imul (pc := 141) hC dX10_lodge_141 ?_
                    refine aw_iload_n (pc := 142) (i := 3) hC dX10_lodge_142 rfl rfl ?_
                    refine aw_iadd (pc := 143) hC dX10_lodge_143 ?_
                    refine aw_iload (pc := 144) hC dX10_lodge_144 rfl ?_
                    refine aw_iastoreN (pc := 146) hC (v0 (j := 20) (by decide)) (fun _ => rfl) dX10_lodge_146 (fun μ21 => ?_)
                    refine aw_iinc (pc := 147) (v := x13 + 1) hC dX10_lodge_147 rfl (congrArg (HAdd.hAdd _) ic1) rfl (by decide) ?_
                    refine aw_goto (pc := 150) (tgt := 70) hC dX10_lodge_150 (by decide) ?_
                    exact aw_drop [4] (ih (x13 + 1) μ21)
                · skip
                  refine aw_icmp_ne (pc := 82) (tgt := 89) hC dX10_lodge_82 (by decide) (fun _ => ?_) (fun _ => ?_)
                  · skip
                    refine aw_iconst (pc := 85) (v := 0) hC dX10_lodge_85 ic0 ?_
                    refine aw_goto (pc := 86) (tgt := 92) hC dX10_lodge_86 (by decide) ?_
                    exact hJ92 0
                  · skip
                    refine aw_ldcw (pc := 89) hC kw1753 dX10_lodge_89 ?_
                    exact hJ92 2000000000
          refine hL70 (fun (μ12 : Mem) => lp_X10_lodge_64 k159 n (x10 + (-1)) μ12) (fun μ12 => ?_) 4096 0 μ11
          · skip
            refine aw_iinc (pc := 153) (v := x10 + (-1)) hC dX10_lodge_153 rfl (congrArg (HAdd.hAdd _) icm1) rfl (by decide) ?_
            refine aw_goto (pc := 156) (tgt := 64) hC dX10_lodge_156 (by decide) ?_
            exact ih (x10 + (-1)) μ12
    refine hL64 (fun (μ9 : Mem) => ix 0 2304 (if (μ9 0 20 (Int32.toNatClampNeg 0)) = 2000000000 then (some ((-1), μ9)) else (if a1 = (-1) then (ix 0 2304 (some ((μ9 0 20 (Int32.toNatClampNeg 0)), μ9))) else ((f_X10_isIn a1 0 ((μ9 0 12 19) - 1)).bind fun (q22 : Int32) => if q22 = 0 then (some ((-1), μ9)) else (lp_X10_lodge_208 a1 μ9 4096 0 0 0))))) (fun μ9 => ?_) 4096 (μ3 0 12 19) μ3
    · skip
      refine aw_aload_n (pc := 159) (i := 0) hC dX10_lodge_159 rfl rfl ?_
      refine aw_get (pc := 160) hC inX10 (v0 (j := 12) (by decide)) rfl rfl 20 (by decide) kw1334 rfl rfl dX10_lodge_160 ?_
      refine aw_iconst (pc := 163) (v := 0) hC dX10_lodge_163 ic0 ?_
      refine aw_iaload (pc := 164) hC (v0 (j := 20) (by decide)) rfl dX10_lodge_164 ?_
      refine aw_ldcw (pc := 165) hC kw1753 dX10_lodge_165 ?_
      refine aw_icmp_ne (pc := 168) (tgt := 173) hC dX10_lodge_168 (by decide) (fun _ => ?_) (fun _ => ?_)
      · skip
        refine aw_iconst (pc := 171) (v := (-1)) hC dX10_lodge_171 icm1 ?_
        exact aw_iret hC dX10_lodge_172
      · skip
        refine aw_iload_n (pc := 173) (i := 1) hC dX10_lodge_173 rfl rfl ?_
        refine aw_iconst (pc := 174) (v := (-1)) hC dX10_lodge_174 icm1 ?_
        refine aw_icmp_ne (pc := 175) (tgt := 185) hC dX10_lodge_175 (by decide) (fun _ => ?_) (fun _ => ?_)
        · skip
          refine aw_aload_n (pc := 178) (i := 0) hC dX10_lodge_178 rfl rfl ?_
          refine aw_get (pc := 179) hC inX10 (v0 (j := 12) (by decide)) rfl rfl 20 (by decide) kw1334 rfl rfl dX10_lodge_179 ?_
          refine aw_iconst (pc := 182) (v := 0) hC dX10_lodge_182 ic0 ?_
          refine aw_iaload (pc := 183) hC (v0 (j := 20) (by decide)) rfl dX10_lodge_183 ?_
          exact aw_iret hC dX10_lodge_184
        · skip
          refine aw_iload_n (pc := 185) (i := 1) hC dX10_lodge_185 rfl rfl ?_
          refine aw_iconst (pc := 186) (v := 0) hC dX10_lodge_186 ic0 ?_
          refine aw_aload_n (pc := 187) (i := 0) hC dX10_lodge_187 rfl rfl ?_
          refine aw_get (pc := 188) hC inX10 (v0 (j := 12) (by decide)) rfl rfl 19 (by decide) kw1333 rfl rfl dX10_lodge_188 ?_
          refine aw_iconst (pc := 191) (v := 1) hC dX10_lodge_191 ic1 ?_
          refine aw_isub (pc := 192) hC dX10_lodge_192 ?_
          refine aw_callSR (pc := 193) (As := [.int a1, .int 0, .int ((μ9 0 12 19) - 1)]) hC ms_X10_isIn kw1394 (by decide) (c_X10_isIn G C.2.1   μ9 a1 0 ((μ9 0 12 19) - 1)) rfl (Nat.le_of_ble_eq_true rfl) dX10_lodge_193 (fun q22 => ?_)
          refine aw_if_ne (pc := 196) (tgt := 201) hC dX10_lodge_196 (by decide) (fun _ => ?_) (fun _ => ?_)
          · skip
            refine aw_iconst (pc := 199) (v := (-1)) hC dX10_lodge_199 icm1 ?_
            exact aw_iret hC dX10_lodge_200
          · skip
            refine aw_iconst (pc := 201) (v := 0) hC dX10_lodge_201 ic0 ?_
            refine aw_istore_n (pc := 202) (i := 2) hC dX10_lodge_202 rfl rfl (by decide) ?_
            refine aw_iconst (pc := 203) (v := 0) hC dX10_lodge_203 ic0 ?_
            refine aw_istore_n (pc := 204) (i := 3) hC dX10_lodge_204 rfl rfl (by decide) ?_
            refine aw_iconst (pc := 205) (v := 0) hC dX10_lodge_205 ic0 ?_
            refine aw_istore (pc := 206) hC dX10_lodge_206 rfl (by decide) ?_
            have hL208 : ∀ (n : Nat) (x23 : Int32) (x24 : Int32) (x25 : Int32), AW G C (qI G C 0 0) 0 0 6 μ9 208 [some (.ref (gad G 0 12)), some (.int a1), some (.int x23), some (.int x24), some (.int x25), none] [] (lp_X10_lodge_208 a1 μ9 n x23 x24 x25) := by
              intro n
              induction n with
              | zero => intro x23 x24 x25; exact aw_none
              | succ n ih =>
                intro x23 x24 x25
                rw [lp_X10_lodge_208]
                refine aw_iload (pc := 208) hC dX10_lodge_208 rfl ?_
                refine aw_iload_n (pc := 210) (i := 1) hC dX10_lodge_210 rfl rfl ?_
                refine aw_icmp_gt (pc := 211) (tgt := 258) hC dX10_lodge_211 (by decide) (fun _ => ?_) (fun _ => ?_)
                · skip
                  refine aw_iload_n (pc := 258) (i := 3) hC dX10_lodge_258 rfl rfl ?_
                  exact aw_iret hC dX10_lodge_259
                · skip
                  refine aw_iconst (pc := 214) (v := 0) hC dX10_lodge_214 ic0 ?_
                  refine aw_istore_n (pc := 215) (i := 3) hC dX10_lodge_215 rfl rfl (by decide) ?_
                  have hL216 : ∀ (k246 : Int32 → Option (Int32 × Mem)) (hk246 : ∀ (x26 : Int32), AW G C (qI G C 0 0) 0 0 6 μ9 246 [some (.ref (gad G 0 12)), some (.int a1), some (.int x23), some (.int x26), some (.int x25), none] [] (k246 x26)) (n : Nat) (x27 : Int32), AW G C (qI G C 0 0) 0 0 6 μ9 216 [some (.ref (gad G 0 12)), some (.int a1), some (.int x23), some (.int x27), some (.int x25), none] [] (lp_X10_lodge_216 μ9 x23 x25 k246 n x27) := by
                    intro k246 hk246 n
                    induction n with
                    | zero => intro x27; exact aw_none
                    | succ n ih =>
                      intro x27
                      rw [lp_X10_lodge_216]
                      refine aw_aload_n (pc := 216) (i := 0) hC dX10_lodge_216 rfl rfl ?_
                      refine aw_iload (pc := 217) hC dX10_lodge_217 rfl ?_
                      refine aw_iload_n (pc := 219) (i := 2) hC dX10_lodge_219 rfl rfl ?_
                      refine aw_iload_n (pc := 220) (i := 3) hC dX10_lodge_220 rfl rfl ?_
                      refine aw_callVR (pc := 221) (As := [.int x25, .int x23, .int x27]) hC mb_X10_by kw1754 (by decide) (c_X10_by G C.2.1   μ9 x25 x23 x27) (v0 (j := 12) (by decide)) rfl rfl rfl (Nat.le_of_ble_eq_true rfl) dX10_lodge_221 (fun q28 => ?_)
                      refine aw_aload_n (pc := 224) (i := 0) hC dX10_lodge_224 rfl rfl ?_
                      refine aw_get (pc := 225) hC inX10 (v0 (j := 12) (by decide)) rfl rfl 20 (by decide) kw1334 rfl rfl dX10_lodge_225 ?_
                      refine aw_sipush (pc := 228) (v := 256) hC dX10_lodge_228 sc256 ?_
                      refine aw_iload (pc := 231) hC dX10_lodge_231 rfl ?_
                      refine aw_imul (pc := 233) hC dX10_lodge_233 ?_
                      refine aw_iload_n (pc := 234) (i := 2) hC dX10_lodge_234 rfl rfl ?_
                      refine aw_iadd (pc := 235) hC dX10_lodge_235 ?_
                      refine aw_iaload (pc := 236) hC (v0 (j := 20) (by decide)) rfl dX10_lodge_236 ?_
                      refine aw_icmp_eq (pc := 237) (tgt := 246) hC dX10_lodge_237 (by decide) (fun _ => ?_) (fun _ => ?_)
                      · skip
                        exact hk246 x27
                      · skip
                        refine aw_iinc (pc := 240) (v := x27 + 1) hC dX10_lodge_240 rfl (congrArg (HAdd.hAdd _) ic1) rfl (by decide) ?_
                        refine aw_goto (pc := 243) (tgt := 216) hC dX10_lodge_243 (by decide) ?_
                        exact ih (x27 + 1)
                  refine hL216 (fun (x26 : Int32) => lp_X10_lodge_208 a1 μ9 n (x23 ||| (jshl 1 x26)) x26 (x25 + 1)) (fun x26 => ?_) 4096 0
                  · skip
                    refine aw_iload_n (pc := 246) (i := 2) hC dX10_lodge_246 rfl rfl ?_
                    refine aw_iconst (pc := 247) (v := 1) hC dX10_lodge_247 ic1 ?_
                    refine aw_iload_n (pc := 248) (i := 3) hC dX10_lodge_248 rfl rfl ?_
                    refine aw_ishl (pc := 249) hC dX10_lodge_249 ?_
                    refine aw_ior (pc := 250) hC dX10_lodge_250 ?_
                    refine aw_istore_n (pc := 251) (i := 2) hC dX10_lodge_251 rfl rfl (by decide) ?_
                    refine aw_iinc (pc := 252) (v := x25 + 1) hC dX10_lodge_252 rfl (congrArg (HAdd.hAdd _) ic1) rfl (by decide) ?_
                    refine aw_goto (pc := 255) (tgt := 208) hC dX10_lodge_255 (by decide) ?_
                    exact ih (x23 ||| (jshl 1 x26)) x26 (x25 + 1)
            exact hL208 4096 0 0 0
theorem dX10_hostHas_0 : decode cX10_hostHas 0 = .ok (.iload_n 2, 1) := by decide +kernel
theorem dX10_hostHas_1 : decode cX10_hostHas 1 = .ok (.iconst 1, 1) := by decide +kernel
theorem dX10_hostHas_2 : decode cX10_hostHas 2 = .ok (.if_icmp .ne 7, 3) := by decide +kernel
theorem dX10_hostHas_5 : decode cX10_hostHas 5 = .ok (.iconst 0, 1) := by decide +kernel
theorem dX10_hostHas_6 : decode cX10_hostHas 6 = .ok (.goto 18, 3) := by decide +kernel
theorem dX10_hostHas_9 : decode cX10_hostHas 9 = .ok (.iload_n 1, 1) := by decide +kernel
theorem dX10_hostHas_10 : decode cX10_hostHas 10 = .ok (.ifCond .eq 12, 3) := by decide +kernel
theorem dX10_hostHas_13 : decode cX10_hostHas 13 = .ok (.iload_n 3, 1) := by decide +kernel
theorem dX10_hostHas_14 : decode cX10_hostHas 14 = .ok (.ifCond .ne 8, 3) := by decide +kernel
theorem dX10_hostHas_17 : decode cX10_hostHas 17 = .ok (.bipush (-20), 2) := by decide +kernel
theorem dX10_hostHas_19 : decode cX10_hostHas 19 = .ok (.goto 5, 3) := by decide +kernel
theorem dX10_hostHas_22 : decode cX10_hostHas 22 = .ok (.bipush 10, 2) := by decide +kernel
theorem dX10_hostHas_24 : decode cX10_hostHas 24 = .ok (.ireturn, 1) := by decide +kernel
def f_X10_hostHas (a1 : Int32) (a2 : Int32) (a3 : Int32) : Option (Int32) := if a2 = 1 then (some 0) else (if a1 = 0 then (some 10) else (if a3 = 0 then (some (-20)) else (some 10)))
set_option maxHeartbeats 4000000 in
set_option maxRecDepth 100000 in
theorem c_X10_hostHas (G : GG) (l : Launch) (μ : Mem) (a1 : Int32) (a2 : Int32) (a3 : Int32) : CR G l yX10_hostHas (.code yX10_hostHas cX10_hostHas 4 (some .int)) 1 [.ref (gad G 0 12), .int a1, .int a2, .int a3] μ (f_X10_hostHas a1 a2 a3) := by
  refine CR.of (own := "SaturdayKeepModel") (L0 := [some (.ref (gad G 0 12)), some (.int a1), some (.int a2), some (.int a3)]) rfl rfl rfl (Nat.le_of_ble_eq_true rfl) (fun C hl hC => ?_)
  subst hl
  delta f_X10_hostHas
  refine aw_iload_n (pc := 0) (i := 2) hC dX10_hostHas_0 rfl rfl ?_
  refine aw_iconst (pc := 1) (v := 1) hC dX10_hostHas_1 ic1 ?_
  refine aw_icmp_ne (pc := 2) (tgt := 9) hC dX10_hostHas_2 (by decide) (fun _ => ?_) (fun _ => ?_)
  · skip
    refine aw_iconst (pc := 5) (v := 0) hC dX10_hostHas_5 ic0 ?_
    refine aw_goto (pc := 6) (tgt := 24) hC dX10_hostHas_6 (by decide) ?_
    exact aw_iretR hC dX10_hostHas_24
  · skip
    refine aw_iload_n (pc := 9) (i := 1) hC dX10_hostHas_9 rfl rfl ?_
    refine aw_if_eq (pc := 10) (tgt := 22) hC dX10_hostHas_10 (by decide) (fun _ => ?_) (fun _ => ?_)
    · skip
      refine aw_bipush (pc := 22) (v := 10) hC dX10_hostHas_22 bc10 ?_
      exact aw_iretR hC dX10_hostHas_24
    · skip
      refine aw_iload_n (pc := 13) (i := 3) hC dX10_hostHas_13 rfl rfl ?_
      refine aw_if_ne (pc := 14) (tgt := 22) hC dX10_hostHas_14 (by decide) (fun _ => ?_) (fun _ => ?_)
      · skip
        refine aw_bipush (pc := 17) (v := (-20)) hC dX10_hostHas_17 bcm20 ?_
        refine aw_goto (pc := 19) (tgt := 24) hC dX10_hostHas_19 (by decide) ?_
        exact aw_iretR hC dX10_hostHas_24
      · skip
        refine aw_bipush (pc := 22) (v := 10) hC dX10_hostHas_22 bc10 ?_
        exact aw_iretR hC dX10_hostHas_24
theorem dX10_guestHas_0 : decode cX10_guestHas 0 = .ok (.iload 4, 2) := by decide +kernel
theorem dX10_guestHas_2 : decode cX10_guestHas 2 = .ok (.iconst 1, 1) := by decide +kernel
theorem dX10_guestHas_3 : decode cX10_guestHas 3 = .ok (.if_icmp .ne 5, 3) := by decide +kernel
theorem dX10_guestHas_6 : decode cX10_guestHas 6 = .ok (.iconst 0, 1) := by decide +kernel
theorem dX10_guestHas_7 : decode cX10_guestHas 7 = .ok (.ireturn, 1) := by decide +kernel
theorem dX10_guestHas_8 : decode cX10_guestHas 8 = .ok (.iload_n 2, 1) := by decide +kernel
theorem dX10_guestHas_9 : decode cX10_guestHas 9 = .ok (.ifCond .eq 16, 3) := by decide +kernel
theorem dX10_guestHas_12 : decode cX10_guestHas 12 = .ok (.iload_n 3, 1) := by decide +kernel
theorem dX10_guestHas_13 : decode cX10_guestHas 13 = .ok (.ifCond .ne 12, 3) := by decide +kernel
theorem dX10_guestHas_16 : decode cX10_guestHas 16 = .ok (.aload_n 0, 1) := by decide +kernel
theorem dX10_guestHas_17 : decode cX10_guestHas 17 = .ok (.iload_n 1, 1) := by decide +kernel
theorem dX10_guestHas_18 : decode cX10_guestHas 18 = .ok (.iconst 1, 1) := by decide +kernel
theorem dX10_guestHas_19 : decode cX10_guestHas 19 = .ok (.invokevirtual 49, 3) := by decide +kernel
theorem dX10_guestHas_22 : decode cX10_guestHas 22 = .ok (.goto 5, 3) := by decide +kernel
theorem dX10_guestHas_25 : decode cX10_guestHas 25 = .ok (.bipush (-3), 2) := by decide +kernel
theorem dX10_guestHas_27 : decode cX10_guestHas 27 = .ok (.ireturn, 1) := by decide +kernel
def f_X10_guestHas (μ : Mem) (a1 : Int32) (a2 : Int32) (a3 : Int32) (a4 : Int32) : Option (Int32) := if a4 = 1 then (some 0) else (if a2 = 0 then (some (-3)) else (if a3 = 0 then ((f_X10_of μ a1 1).bind fun (q1 : Int32) => some q1) else (some (-3))))
set_option maxHeartbeats 4000000 in
set_option maxRecDepth 100000 in
theorem c_X10_guestHas (G : GG) (l : Launch) (μ : Mem) (a1 : Int32) (a2 : Int32) (a3 : Int32) (a4 : Int32) : CR G l yX10_guestHas (.code yX10_guestHas cX10_guestHas 5 (some .int)) 2 [.ref (gad G 0 12), .int a1, .int a2, .int a3, .int a4] μ (f_X10_guestHas μ a1 a2 a3 a4) := by
  refine CR.of (own := "SaturdayKeepModel") (L0 := [some (.ref (gad G 0 12)), some (.int a1), some (.int a2), some (.int a3), some (.int a4)]) rfl rfl rfl (Nat.le_of_ble_eq_true rfl) (fun C hl hC => ?_)
  subst hl
  delta f_X10_guestHas
  refine aw_iload (pc := 0) hC dX10_guestHas_0 rfl ?_
  refine aw_iconst (pc := 2) (v := 1) hC dX10_guestHas_2 ic1 ?_
  refine aw_icmp_ne (pc := 3) (tgt := 8) hC dX10_guestHas_3 (by decide) (fun _ => ?_) (fun _ => ?_)
  · skip
    refine aw_iconst (pc := 6) (v := 0) hC dX10_guestHas_6 ic0 ?_
    exact aw_iretR hC dX10_guestHas_7
  · skip
    refine aw_iload_n (pc := 8) (i := 2) hC dX10_guestHas_8 rfl rfl ?_
    refine aw_if_eq (pc := 9) (tgt := 25) hC dX10_guestHas_9 (by decide) (fun _ => ?_) (fun _ => ?_)
    · skip
      refine aw_bipush (pc := 25) (v := (-3)) hC dX10_guestHas_25 bcm3 ?_
      exact aw_iretR hC dX10_guestHas_27
    · skip
      refine aw_iload_n (pc := 12) (i := 3) hC dX10_guestHas_12 rfl rfl ?_
      refine aw_if_ne (pc := 13) (tgt := 25) hC dX10_guestHas_13 (by decide) (fun _ => ?_) (fun _ => ?_)
      · skip
        refine aw_aload_n (pc := 16) (i := 0) hC dX10_guestHas_16 rfl rfl ?_
        refine aw_iload_n (pc := 17) (i := 1) hC dX10_guestHas_17 rfl rfl ?_
        refine aw_iconst (pc := 18) (v := 1) hC dX10_guestHas_18 ic1 ?_
        refine aw_callVR (pc := 19) (As := [.int a1, .int 1]) hC mb_X10_of kw1539 (by decide) (c_X10_of G C.2.1   μ a1 1) (v0 (j := 12) (by decide)) rfl rfl rfl (Nat.le_of_ble_eq_true rfl) dX10_guestHas_19 (fun q1 => ?_)
        refine aw_goto (pc := 22) (tgt := 27) hC dX10_guestHas_22 (by decide) ?_
        exact aw_iretR hC dX10_guestHas_27
      · skip
        refine aw_bipush (pc := 25) (v := (-3)) hC dX10_guestHas_25 bcm3 ?_
        exact aw_iretR hC dX10_guestHas_27
theorem dX10_rests_0 : decode cX10_rests 0 = .ok (.aload_n 0, 1) := by decide +kernel
theorem dX10_rests_1 : decode cX10_rests 1 = .ok (.aload_n 0, 1) := by decide +kernel
theorem dX10_rests_2 : decode cX10_rests 2 = .ok (.iload_n 1, 1) := by decide +kernel
theorem dX10_rests_3 : decode cX10_rests 3 = .ok (.invokevirtual 267, 3) := by decide +kernel
theorem dX10_rests_6 : decode cX10_rests 6 = .ok (.ifCond .ne 7, 3) := by decide +kernel
theorem dX10_rests_9 : decode cX10_rests 9 = .ok (.iconst 1, 1) := by decide +kernel
theorem dX10_rests_10 : decode cX10_rests 10 = .ok (.goto 4, 3) := by decide +kernel
theorem dX10_rests_13 : decode cX10_rests 13 = .ok (.iconst 0, 1) := by decide +kernel
theorem dX10_rests_14 : decode cX10_rests 14 = .ok (.putfield 42, 3) := by decide +kernel
theorem dX10_rests_17 : decode cX10_rests 17 = .ok (.aload_n 0, 1) := by decide +kernel
theorem dX10_rests_18 : decode cX10_rests 18 = .ok (.getfield 42, 3) := by decide +kernel
theorem dX10_rests_21 : decode cX10_rests 21 = .ok (.ifCond .le 5, 3) := by decide +kernel
theorem dX10_rests_24 : decode cX10_rests 24 = .ok (.iconst 0, 1) := by decide +kernel
theorem dX10_rests_25 : decode cX10_rests 25 = .ok (.ireturn, 1) := by decide +kernel
theorem dX10_rests_26 : decode cX10_rests 26 = .ok (.aload_n 0, 1) := by decide +kernel
theorem dX10_rests_27 : decode cX10_rests 27 = .ok (.aload_n 0, 1) := by decide +kernel
theorem dX10_rests_28 : decode cX10_rests 28 = .ok (.getfield 7, 3) := by decide +kernel
theorem dX10_rests_31 : decode cX10_rests 31 = .ok (.iconst 4, 1) := by decide +kernel
theorem dX10_rests_32 : decode cX10_rests 32 = .ok (.iaload, 1) := by decide +kernel
theorem dX10_rests_33 : decode cX10_rests 33 = .ok (.invokevirtual 252, 3) := by decide +kernel
theorem dX10_rests_36 : decode cX10_rests 36 = .ok (.iload_n 1, 1) := by decide +kernel
theorem dX10_rests_37 : decode cX10_rests 37 = .ok (.invokestatic 53, 3) := by decide +kernel
theorem dX10_rests_40 : decode cX10_rests 40 = .ok (.istore_n 2, 1) := by decide +kernel
theorem dX10_rests_41 : decode cX10_rests 41 = .ok (.iconst 0, 1) := by decide +kernel
theorem dX10_rests_42 : decode cX10_rests 42 = .ok (.istore_n 3, 1) := by decide +kernel
theorem dX10_rests_43 : decode cX10_rests 43 = .ok (.iconst 0, 1) := by decide +kernel
theorem dX10_rests_44 : decode cX10_rests 44 = .ok (.istore 4, 2) := by decide +kernel
theorem dX10_rests_46 : decode cX10_rests 46 = .ok (.iload 4, 2) := by decide +kernel
theorem dX10_rests_48 : decode cX10_rests 48 = .ok (.iconst 4, 1) := by decide +kernel
theorem dX10_rests_49 : decode cX10_rests 49 = .ok (.if_icmp .ge 76, 3) := by decide +kernel
theorem dX10_rests_52 : decode cX10_rests 52 = .ok (.iload 4, 2) := by decide +kernel
theorem dX10_rests_54 : decode cX10_rests 54 = .ok (.iconst 2, 1) := by decide +kernel
theorem dX10_rests_55 : decode cX10_rests 55 = .ok (.idiv, 1) := by decide +kernel
theorem dX10_rests_56 : decode cX10_rests 56 = .ok (.istore 5, 2) := by decide +kernel
theorem dX10_rests_58 : decode cX10_rests 58 = .ok (.iload 4, 2) := by decide +kernel
theorem dX10_rests_60 : decode cX10_rests 60 = .ok (.iconst 2, 1) := by decide +kernel
theorem dX10_rests_61 : decode cX10_rests 61 = .ok (.irem, 1) := by decide +kernel
theorem dX10_rests_62 : decode cX10_rests 62 = .ok (.istore 6, 2) := by decide +kernel
theorem dX10_rests_64 : decode cX10_rests 64 = .ok (.aload_n 0, 1) := by decide +kernel
theorem dX10_rests_65 : decode cX10_rests 65 = .ok (.iload_n 2, 1) := by decide +kernel
theorem dX10_rests_66 : decode cX10_rests 66 = .ok (.iconst 1, 1) := by decide +kernel
theorem dX10_rests_67 : decode cX10_rests 67 = .ok (.iload 5, 2) := by decide +kernel
theorem dX10_rests_69 : decode cX10_rests 69 = .ok (.isub, 1) := by decide +kernel
theorem dX10_rests_70 : decode cX10_rests 70 = .ok (.iload 6, 2) := by decide +kernel
theorem dX10_rests_72 : decode cX10_rests 72 = .ok (.invokevirtual 316, 3) := by decide +kernel
theorem dX10_rests_75 : decode cX10_rests 75 = .ok (.aload_n 0, 1) := by decide +kernel
theorem dX10_rests_76 : decode cX10_rests 76 = .ok (.iload_n 2, 1) := by decide +kernel
theorem dX10_rests_77 : decode cX10_rests 77 = .ok (.iload 5, 2) := by decide +kernel
theorem dX10_rests_79 : decode cX10_rests 79 = .ok (.iload 6, 2) := by decide +kernel
theorem dX10_rests_81 : decode cX10_rests 81 = .ok (.invokevirtual 316, 3) := by decide +kernel
theorem dX10_rests_84 : decode cX10_rests 84 = .ok (.if_icmp .gt 35, 3) := by decide +kernel
theorem dX10_rests_87 : decode cX10_rests 87 = .ok (.aload_n 0, 1) := by decide +kernel
theorem dX10_rests_88 : decode cX10_rests 88 = .ok (.iload_n 1, 1) := by decide +kernel
theorem dX10_rests_89 : decode cX10_rests 89 = .ok (.iload_n 2, 1) := by decide +kernel
theorem dX10_rests_90 : decode cX10_rests 90 = .ok (.iload 5, 2) := by decide +kernel
theorem dX10_rests_92 : decode cX10_rests 92 = .ok (.iconst 1, 1) := by decide +kernel
theorem dX10_rests_93 : decode cX10_rests 93 = .ok (.iload 6, 2) := by decide +kernel
theorem dX10_rests_95 : decode cX10_rests 95 = .ok (.isub, 1) := by decide +kernel
theorem dX10_rests_96 : decode cX10_rests 96 = .ok (.invokevirtual 320, 3) := by decide +kernel
theorem dX10_rests_99 : decode cX10_rests 99 = .ok (.aload_n 0, 1) := by decide +kernel
theorem dX10_rests_100 : decode cX10_rests 100 = .ok (.iload_n 1, 1) := by decide +kernel
theorem dX10_rests_101 : decode cX10_rests 101 = .ok (.iload_n 2, 1) := by decide +kernel
theorem dX10_rests_102 : decode cX10_rests 102 = .ok (.iload 5, 2) := by decide +kernel
theorem dX10_rests_104 : decode cX10_rests 104 = .ok (.iload 6, 2) := by decide +kernel
theorem dX10_rests_106 : decode cX10_rests 106 = .ok (.invokevirtual 320, 3) := by decide +kernel
theorem dX10_rests_109 : decode cX10_rests 109 = .ok (.if_icmp .gt 10, 3) := by decide +kernel
theorem dX10_rests_112 : decode cX10_rests 112 = .ok (.iload_n 3, 1) := by decide +kernel
theorem dX10_rests_113 : decode cX10_rests 113 = .ok (.iconst 1, 1) := by decide +kernel
theorem dX10_rests_114 : decode cX10_rests 114 = .ok (.iload 4, 2) := by decide +kernel
theorem dX10_rests_116 : decode cX10_rests 116 = .ok (.ishl, 1) := by decide +kernel
theorem dX10_rests_117 : decode cX10_rests 117 = .ok (.ior, 1) := by decide +kernel
theorem dX10_rests_118 : decode cX10_rests 118 = .ok (.istore_n 3, 1) := by decide +kernel
theorem dX10_rests_119 : decode cX10_rests 119 = .ok (.iinc 4 1, 3) := by decide +kernel
theorem dX10_rests_122 : decode cX10_rests 122 = .ok (.goto (-76), 3) := by decide +kernel
theorem dX10_rests_125 : decode cX10_rests 125 = .ok (.iload_n 3, 1) := by decide +kernel
theorem dX10_rests_126 : decode cX10_rests 126 = .ok (.ireturn, 1) := by decide +kernel
def lp_X10_rests_46 (a1 : Int32) (μ3 : Mem) (q5 : Int32) : Nat → Int32 → Int32 → Option (Int32 × Mem)
  | 0, _, _ => none
  | n + 1, x6, x7 => if 4 ≤ x7 then (some (x6, μ3)) else ((f_X10_hostHas q5 (1 - (x7 / 2)) (jrem x7 2)).bind fun (q8 : Int32) => (f_X10_hostHas q5 (x7 / 2) (jrem x7 2)).bind fun (q9 : Int32) => if q9 < q8 then (lp_X10_rests_46 a1 μ3 q5 n x6 (x7 + 1)) else ((f_X10_guestHas μ3 a1 q5 (x7 / 2) (1 - (jrem x7 2))).bind fun (q10 : Int32) => (f_X10_guestHas μ3 a1 q5 (x7 / 2) (jrem x7 2)).bind fun (q11 : Int32) => if q11 < q10 then (lp_X10_rests_46 a1 μ3 q5 n x6 (x7 + 1)) else (lp_X10_rests_46 a1 μ3 q5 n (x6 ||| (jshl 1 x7)) (x7 + 1))))
def f_X10_rests (μ : Mem) (a1 : Int32) : Option (Int32 × Mem) := (f_X10_isGuest μ a1).bind fun (q1 : Int32) => nm (fun (x2 : Int32) => nm (upm μ 0 12 0 x2) fun (μ3 : Mem) => if (μ3 0 12 0) ≤ 0 then (ix 4 704 ((f_X10_watchers μ3 (μ3 0 13 (Int32.toNatClampNeg 4))).bind fun (q4 : Int32) => (f_X10_isOf q4 a1).bind fun (q5 : Int32) => lp_X10_rests_46 a1 μ3 q5 4096 0 0)) else (some (0, μ3))) fun (J14 : Int32 → Option (Int32 × Mem)) => if q1 = 0 then (J14 1) else (J14 0)
set_option maxHeartbeats 4000000 in
set_option maxRecDepth 100000 in
theorem c_X10_rests (G : GG) (l : Launch) (μ : Mem) (a1 : Int32) : CI G l yX10_rests (.code yX10_rests cX10_rests 7 (some .int)) 6 [.ref (gad G 0 12), .int a1] μ (f_X10_rests μ a1) := by
  refine CI.of (own := "SaturdayKeepModel") (L0 := [some (.ref (gad G 0 12)), some (.int a1), none, none, none, none, none]) rfl rfl rfl (Nat.le_of_ble_eq_true rfl) (fun C hl hC => ?_)
  subst hl
  delta f_X10_rests
  refine aw_aload_n (pc := 0) (i := 0) hC dX10_rests_0 rfl rfl ?_
  refine aw_aload_n (pc := 1) (i := 0) hC dX10_rests_1 rfl rfl ?_
  refine aw_iload_n (pc := 2) (i := 1) hC dX10_rests_2 rfl rfl ?_
  refine aw_callVR (pc := 3) (As := [.int a1]) hC mb_X10_isGuest kw1535 (by decide) (c_X10_isGuest G C.2.1   μ a1) (v0 (j := 12) (by decide)) rfl rfl rfl (Nat.le_of_ble_eq_true rfl) dX10_rests_3 (fun q1 => ?_)
  refine aw_nmJ (fun (J14 : Int32 → Option (Int32 × Mem)) => ∀ (x2 : Int32), AW G C (qI G C 0 0) 0 0 7 μ 14 [some (.ref (gad G 0 12)), some (.int a1), none, none, none, none, none] [.int x2, .ref (gad G 0 12)] (J14 x2)) (fun x2 => ?_) (fun J14 hJ14 => ?_)
  · skip
    refine aw_putIN (pc := 14) hC inX10 (v0 (j := 12) (by decide)) rfl rfl 0 (by decide) kw1314 rfl tyX10 tyX10_ok nmX10 rfl rfl (Nat.le_of_ble_eq_true rfl) rfl dX10_rests_14 (fun μ3 => ?_)
    refine aw_aload_n (pc := 17) (i := 0) hC dX10_rests_17 rfl rfl ?_
    refine aw_get (pc := 18) hC inX10 (v0 (j := 12) (by decide)) rfl rfl 0 (by decide) kw1314 rfl rfl dX10_rests_18 ?_
    refine aw_if_le (pc := 21) (tgt := 26) hC dX10_rests_21 (by decide) (fun _ => ?_) (fun _ => ?_)
    · skip
      refine aw_aload_n (pc := 26) (i := 0) hC dX10_rests_26 rfl rfl ?_
      refine aw_aload_n (pc := 27) (i := 0) hC dX10_rests_27 rfl rfl ?_
      refine aw_get (pc := 28) hC inX10 (v0 (j := 12) (by decide)) rfl rfl 1 (by decide) kw1315 rfl rfl dX10_rests_28 ?_
      refine aw_iconst (pc := 31) (v := 4) hC dX10_rests_31 ic4 ?_
      refine aw_iaload (pc := 32) hC (v0 (j := 13) (by decide)) rfl dX10_rests_32 ?_
      refine aw_callVR (pc := 33) (As := [.int (μ3 0 13 (Int32.toNatClampNeg 4))]) hC mb_X10_watchers kw1596 (by decide) (c_X10_watchers G C.2.1   μ3 (μ3 0 13 (Int32.toNatClampNeg 4))) (v0 (j := 12) (by decide)) rfl rfl rfl (Nat.le_of_ble_eq_true rfl) dX10_rests_33 (fun q4 => ?_)
      refine aw_iload_n (pc := 36) (i := 1) hC dX10_rests_36 rfl rfl ?_
      refine aw_callSR (pc := 37) (As := [.int q4, .int a1]) hC ms_X10_isOf kw1578 (by decide) (c_X10_isOf G C.2.1   μ3 q4 a1) rfl (Nat.le_of_ble_eq_true rfl) dX10_rests_37 (fun q5 => ?_)
      refine aw_istore_n (pc := 40) (i := 2) hC dX10_rests_40 rfl rfl (by decide) ?_
      refine aw_iconst (pc := 41) (v := 0) hC dX10_rests_41 ic0 ?_
      refine aw_istore_n (pc := 42) (i := 3) hC dX10_rests_42 rfl rfl (by decide) ?_
      refine aw_iconst (pc := 43) (v := 0) hC dX10_rests_43 ic0 ?_
      refine aw_istore (pc := 44) hC dX10_rests_44 rfl (by decide) ?_
      have hL46 : ∀ (n : Nat) (x6 : Int32) (x7 : Int32), AW G C (qI G C 0 0) 0 0 7 μ3 46 [some (.ref (gad G 0 12)), some (.int a1), some (.int q5), some (.int x6), some (.int x7), none, none] [] (lp_X10_rests_46 a1 μ3 q5 n x6 x7) := by
        intro n
        induction n with
        | zero => intro x6 x7; exact aw_none
        | succ n ih =>
          intro x6 x7
          rw [lp_X10_rests_46]
          refine aw_iload (pc := 46) hC dX10_rests_46 rfl ?_
          refine aw_iconst (pc := 48) (v := 4) hC dX10_rests_48 ic4 ?_
          refine aw_icmp_ge (pc := 49) (tgt := 125) hC dX10_rests_49 (by decide) (fun _ => ?_) (fun _ => ?_)
          · skip
            refine aw_iload_n (pc := 125) (i := 3) hC dX10_rests_125 rfl rfl ?_
            exact aw_iret hC dX10_rests_126
          · skip
            refine aw_iload (pc := 52) hC dX10_rests_52 rfl ?_
            refine aw_iconst (pc := 54) (v := 2) hC dX10_rests_54 ic2 ?_
            refine aw_idiv (pc := 55) hC dX10_rests_55 (by decide) ?_
            refine aw_istore (pc := 56) hC dX10_rests_56 rfl (by decide) ?_
            refine aw_iload (pc := 58) hC dX10_rests_58 rfl ?_
            refine aw_iconst (pc := 60) (v := 2) hC dX10_rests_60 ic2 ?_
            refine aw_irem (pc := 61) hC dX10_rests_61 (by decide) ?_
            refine aw_istore (pc := 62) hC dX10_rests_62 rfl (by decide) ?_
            refine aw_aload_n (pc := 64) (i := 0) hC dX10_rests_64 rfl rfl ?_
            refine aw_iload_n (pc := 65) (i := 2) hC dX10_rests_65 rfl rfl ?_
            refine aw_iconst (pc := 66) (v := 1) hC dX10_rests_66 ic1 ?_
            refine aw_iload (pc := 67) hC dX10_rests_67 rfl ?_
            refine aw_isub (pc := 69) hC dX10_rests_69 ?_
            refine aw_iload (pc := 70) hC dX10_rests_70 rfl ?_
            refine aw_callVR (pc := 72) (As := [.int q5, .int (1 - (x7 / 2)), .int (jrem x7 2)]) hC mb_X10_hostHas kw1762 (by decide) (c_X10_hostHas G C.2.1   μ3 q5 (1 - (x7 / 2)) (jrem x7 2)) (v0 (j := 12) (by decide)) rfl rfl rfl (Nat.le_of_ble_eq_true rfl) dX10_rests_72 (fun q8 => ?_)
            refine aw_aload_n (pc := 75) (i := 0) hC dX10_rests_75 rfl rfl ?_
            refine aw_iload_n (pc := 76) (i := 2) hC dX10_rests_76 rfl rfl ?_
            refine aw_iload (pc := 77) hC dX10_rests_77 rfl ?_
            refine aw_iload (pc := 79) hC dX10_rests_79 rfl ?_
            refine aw_callVR (pc := 81) (As := [.int q5, .int (x7 / 2), .int (jrem x7 2)]) hC mb_X10_hostHas kw1762 (by decide) (c_X10_hostHas G C.2.1   μ3 q5 (x7 / 2) (jrem x7 2)) (v0 (j := 12) (by decide)) rfl rfl rfl (Nat.le_of_ble_eq_true rfl) dX10_rests_81 (fun q9 => ?_)
            refine aw_icmp_gt (pc := 84) (tgt := 119) hC dX10_rests_84 (by decide) (fun _ => ?_) (fun _ => ?_)
            · skip
              refine aw_iinc (pc := 119) (v := x7 + 1) hC dX10_rests_119 rfl (congrArg (HAdd.hAdd _) ic1) rfl (by decide) ?_
              refine aw_goto (pc := 122) (tgt := 46) hC dX10_rests_122 (by decide) ?_
              exact aw_drop [5, 6] (ih x6 (x7 + 1))
            · skip
              refine aw_aload_n (pc := 87) (i := 0) hC dX10_rests_87 rfl rfl ?_
              refine aw_iload_n (pc := 88) (i := 1) hC dX10_rests_88 rfl rfl ?_
              refine aw_iload_n (pc := 89) (i := 2) hC dX10_rests_89 rfl rfl ?_
              refine aw_iload (pc := 90) hC dX10_rests_90 rfl ?_
              refine aw_iconst (pc := 92) (v := 1) hC dX10_rests_92 ic1 ?_
              refine aw_iload (pc := 93) hC dX10_rests_93 rfl ?_
              refine aw_isub (pc := 95) hC dX10_rests_95 ?_
              refine aw_callVR (pc := 96) (As := [.int a1, .int q5, .int (x7 / 2), .int (1 - (jrem x7 2))]) hC mb_X10_guestHas kw1766 (by decide) (c_X10_guestHas G C.2.1   μ3 a1 q5 (x7 / 2) (1 - (jrem x7 2))) (v0 (j := 12) (by decide)) rfl rfl rfl (Nat.le_of_ble_eq_true rfl) dX10_rests_96 (fun q10 => ?_)
              refine aw_aload_n (pc := 99) (i := 0) hC dX10_rests_99 rfl rfl ?_
              refine aw_iload_n (pc := 100) (i := 1) hC dX10_rests_100 rfl rfl ?_
              refine aw_iload_n (pc := 101) (i := 2) hC dX10_rests_101 rfl rfl ?_
              refine aw_iload (pc := 102) hC dX10_rests_102 rfl ?_
              refine aw_iload (pc := 104) hC dX10_rests_104 rfl ?_
              refine aw_callVR (pc := 106) (As := [.int a1, .int q5, .int (x7 / 2), .int (jrem x7 2)]) hC mb_X10_guestHas kw1766 (by decide) (c_X10_guestHas G C.2.1   μ3 a1 q5 (x7 / 2) (jrem x7 2)) (v0 (j := 12) (by decide)) rfl rfl rfl (Nat.le_of_ble_eq_true rfl) dX10_rests_106 (fun q11 => ?_)
              refine aw_icmp_gt (pc := 109) (tgt := 119) hC dX10_rests_109 (by decide) (fun _ => ?_) (fun _ => ?_)
              · skip
                refine aw_iinc (pc := 119) (v := x7 + 1) hC dX10_rests_119 rfl (congrArg (HAdd.hAdd _) ic1) rfl (by decide) ?_
                refine aw_goto (pc := 122) (tgt := 46) hC dX10_rests_122 (by decide) ?_
                exact aw_drop [5, 6] (ih x6 (x7 + 1))
              · skip
                refine aw_iload_n (pc := 112) (i := 3) hC dX10_rests_112 rfl rfl ?_
                refine aw_iconst (pc := 113) (v := 1) hC dX10_rests_113 ic1 ?_
                refine aw_iload (pc := 114) hC dX10_rests_114 rfl ?_
                refine aw_ishl (pc := 116) hC dX10_rests_116 ?_
                refine aw_ior (pc := 117) hC dX10_rests_117 ?_
                refine aw_istore_n (pc := 118) (i := 3) hC dX10_rests_118 rfl rfl (by decide) ?_
                refine aw_iinc (pc := 119) (v := x7 + 1) hC dX10_rests_119 rfl (congrArg (HAdd.hAdd _) ic1) rfl (by decide) ?_
                refine aw_goto (pc := 122) (tgt := 46) hC dX10_rests_122 (by decide) ?_
                exact aw_drop [5, 6] (ih (x6 ||| (jshl 1 x7)) (x7 + 1))
      exact hL46 4096 0 0
    · skip
      refine aw_iconst (pc := 24) (v := 0) hC dX10_rests_24 ic0 ?_
      exact aw_iret hC dX10_rests_25
  · skip
    refine aw_if_ne (pc := 6) (tgt := 13) hC dX10_rests_6 (by decide) (fun _ => ?_) (fun _ => ?_)
    · skip
      refine aw_iconst (pc := 9) (v := 1) hC dX10_rests_9 ic1 ?_
      refine aw_goto (pc := 10) (tgt := 14) hC dX10_rests_10 (by decide) ?_
      exact hJ14 1
    · skip
      refine aw_iconst (pc := 13) (v := 0) hC dX10_rests_13 ic0 ?_
      exact hJ14 0
theorem dX10_heard_0 : decode cX10_heard 0 = .ok (.aload_n 0, 1) := by decide +kernel
theorem dX10_heard_1 : decode cX10_heard 1 = .ok (.getfield 61, 3) := by decide +kernel
theorem dX10_heard_4 : decode cX10_heard 4 = .ok (.istore_n 2, 1) := by decide +kernel
theorem dX10_heard_5 : decode cX10_heard 5 = .ok (.aload_n 0, 1) := by decide +kernel
theorem dX10_heard_6 : decode cX10_heard 6 = .ok (.iconst 0, 1) := by decide +kernel
theorem dX10_heard_7 : decode cX10_heard 7 = .ok (.putfield 61, 3) := by decide +kernel
theorem dX10_heard_10 : decode cX10_heard 10 = .ok (.iload_n 2, 1) := by decide +kernel
theorem dX10_heard_11 : decode cX10_heard 11 = .ok (.iconst 2, 1) := by decide +kernel
theorem dX10_heard_12 : decode cX10_heard 12 = .ok (.irem, 1) := by decide +kernel
theorem dX10_heard_13 : decode cX10_heard 13 = .ok (.ifCond .ne 13, 3) := by decide +kernel
theorem dX10_heard_16 : decode cX10_heard 16 = .ok (.iload_n 2, 1) := by decide +kernel
theorem dX10_heard_17 : decode cX10_heard 17 = .ok (.bipush 40, 2) := by decide +kernel
theorem dX10_heard_19 : decode cX10_heard 19 = .ok (.if_icmp .gt 7, 3) := by decide +kernel
theorem dX10_heard_22 : decode cX10_heard 22 = .ok (.iconst 1, 1) := by decide +kernel
theorem dX10_heard_23 : decode cX10_heard 23 = .ok (.goto 4, 3) := by decide +kernel
theorem dX10_heard_26 : decode cX10_heard 26 = .ok (.iconst 0, 1) := by decide +kernel
theorem dX10_heard_27 : decode cX10_heard 27 = .ok (.istore_n 3, 1) := by decide +kernel
theorem dX10_heard_28 : decode cX10_heard 28 = .ok (.iconst 0, 1) := by decide +kernel
theorem dX10_heard_29 : decode cX10_heard 29 = .ok (.istore 4, 2) := by decide +kernel
theorem dX10_heard_31 : decode cX10_heard 31 = .ok (.iload 4, 2) := by decide +kernel
theorem dX10_heard_33 : decode cX10_heard 33 = .ok (.iload_n 2, 1) := by decide +kernel
theorem dX10_heard_34 : decode cX10_heard 34 = .ok (.if_icmp .ge 41, 3) := by decide +kernel
theorem dX10_heard_37 : decode cX10_heard 37 = .ok (.iload_n 3, 1) := by decide +kernel
theorem dX10_heard_38 : decode cX10_heard 38 = .ok (.ifCond .eq 37, 3) := by decide +kernel
theorem dX10_heard_41 : decode cX10_heard 41 = .ok (.aload_n 0, 1) := by decide +kernel
theorem dX10_heard_42 : decode cX10_heard 42 = .ok (.getfield 22, 3) := by decide +kernel
theorem dX10_heard_45 : decode cX10_heard 45 = .ok (.iload 4, 2) := by decide +kernel
theorem dX10_heard_47 : decode cX10_heard 47 = .ok (.iaload, 1) := by decide +kernel
theorem dX10_heard_48 : decode cX10_heard 48 = .ok (.iload 4, 2) := by decide +kernel
theorem dX10_heard_50 : decode cX10_heard 50 = .ok (.iconst 2, 1) := by decide +kernel
theorem dX10_heard_51 : decode cX10_heard 51 = .ok (.irem, 1) := by decide +kernel
theorem dX10_heard_52 : decode cX10_heard 52 = .ok (.ifCond .ne 7, 3) := by decide +kernel
theorem dX10_heard_55 : decode cX10_heard 55 = .ok (.iload_n 1, 1) := by decide +kernel
theorem dX10_heard_56 : decode cX10_heard 56 = .ok (.goto 4, 3) := by decide +kernel
theorem dX10_heard_59 : decode cX10_heard 59 = .ok (.iconst 2, 1) := by decide +kernel
theorem dX10_heard_60 : decode cX10_heard 60 = .ok (.if_icmp .ge 7, 3) := by decide +kernel
theorem dX10_heard_63 : decode cX10_heard 63 = .ok (.iconst 1, 1) := by decide +kernel
theorem dX10_heard_64 : decode cX10_heard 64 = .ok (.goto 4, 3) := by decide +kernel
theorem dX10_heard_67 : decode cX10_heard 67 = .ok (.iconst 0, 1) := by decide +kernel
theorem dX10_heard_68 : decode cX10_heard 68 = .ok (.istore_n 3, 1) := by decide +kernel
theorem dX10_heard_69 : decode cX10_heard 69 = .ok (.iinc 4 1, 3) := by decide +kernel
theorem dX10_heard_72 : decode cX10_heard 72 = .ok (.goto (-41), 3) := by decide +kernel
theorem dX10_heard_75 : decode cX10_heard 75 = .ok (.iload_n 3, 1) := by decide +kernel
theorem dX10_heard_76 : decode cX10_heard 76 = .ok (.ifCond .eq 7, 3) := by decide +kernel
theorem dX10_heard_79 : decode cX10_heard 79 = .ok (.iload_n 2, 1) := by decide +kernel
theorem dX10_heard_80 : decode cX10_heard 80 = .ok (.goto 4, 3) := by decide +kernel
theorem dX10_heard_83 : decode cX10_heard 83 = .ok (.iconst (-1), 1) := by decide +kernel
theorem dX10_heard_84 : decode cX10_heard 84 = .ok (.ireturn, 1) := by decide +kernel
def lp_X10_heard_31 (a1 : Int32) (μ : Mem) (μ1 : Mem) (k75 : Int32 → Option (Int32 × Mem)) : Nat → Int32 → Int32 → Option (Int32 × Mem)
  | 0, _, _ => none
  | n + 1, x4, x5 => if (μ 0 12 8) ≤ x5 then (k75 x4) else (if x4 = 0 then (k75 x4) else (ix x5 400 (nm (fun (x6 : Int32) => if x6 ≤ (μ1 0 17 x5.toNatClampNeg) then (lp_X10_heard_31 a1 μ μ1 k75 n 0 (x5 + 1)) else (lp_X10_heard_31 a1 μ μ1 k75 n 1 (x5 + 1))) fun (J60 : Int32 → Option (Int32 × Mem)) => if (jrem x5 2) = 0 then (J60 a1) else (J60 2))))
def f_X10_heard (μ : Mem) (a1 : Int32) : Option (Int32 × Mem) := nm (upm μ 0 12 8 0) fun (μ1 : Mem) => nm (fun (x2 : Int32) => lp_X10_heard_31 a1 μ μ1 (fun (x3 : Int32) => if x3 = 0 then (some ((-1), μ1)) else (some ((μ 0 12 8), μ1))) 4096 x2 0) fun (J27 : Int32 → Option (Int32 × Mem)) => nm (J27 0) fun (J26 : Option (Int32 × Mem)) => if (jrem (μ 0 12 8) 2) = 0 then (if 40 < (μ 0 12 8) then (J26) else (J27 1)) else (J26)
set_option maxHeartbeats 4000000 in
set_option maxRecDepth 100000 in
theorem c_X10_heard (G : GG) (l : Launch) (μ : Mem) (a1 : Int32) : CI G l yX10_heard (.code yX10_heard cX10_heard 5 (some .int)) 1 [.ref (gad G 0 12), .int a1] μ (f_X10_heard μ a1) := by
  refine CI.of (own := "SaturdayKeepModel") (L0 := [some (.ref (gad G 0 12)), some (.int a1), none, none, none]) rfl rfl rfl (Nat.le_of_ble_eq_true rfl) (fun C hl hC => ?_)
  subst hl
  delta f_X10_heard
  refine aw_aload_n (pc := 0) (i := 0) hC dX10_heard_0 rfl rfl ?_
  refine aw_get (pc := 1) hC inX10 (v0 (j := 12) (by decide)) rfl rfl 8 (by decide) kw1322 rfl rfl dX10_heard_1 ?_
  refine aw_istore_n (pc := 4) (i := 2) hC dX10_heard_4 rfl rfl (by decide) ?_
  refine aw_aload_n (pc := 5) (i := 0) hC dX10_heard_5 rfl rfl ?_
  refine aw_iconst (pc := 6) (v := 0) hC dX10_heard_6 ic0 ?_
  refine aw_putIN (pc := 7) hC inX10 (v0 (j := 12) (by decide)) rfl rfl 8 (by decide) kw1322 rfl tyX10 tyX10_ok nmX10 rfl rfl (Nat.le_of_ble_eq_true rfl) rfl dX10_heard_7 (fun μ1 => ?_)
  refine aw_iload_n (pc := 10) (i := 2) hC dX10_heard_10 rfl rfl ?_
  refine aw_iconst (pc := 11) (v := 2) hC dX10_heard_11 ic2 ?_
  refine aw_irem (pc := 12) hC dX10_heard_12 (by decide) ?_
  refine aw_nmJ (fun (J27 : Int32 → Option (Int32 × Mem)) => ∀ (x2 : Int32), AW G C (qI G C 0 0) 0 0 5 μ1 27 [some (.ref (gad G 0 12)), some (.int a1), some (.int (μ 0 12 8)), none, none] [.int x2] (J27 x2)) (fun x2 => ?_) (fun J27 hJ27 => ?_)
  · skip
    refine aw_istore_n (pc := 27) (i := 3) hC dX10_heard_27 rfl rfl (by decide) ?_
    refine aw_iconst (pc := 28) (v := 0) hC dX10_heard_28 ic0 ?_
    refine aw_istore (pc := 29) hC dX10_heard_29 rfl (by decide) ?_
    have hL31 : ∀ (k75 : Int32 → Option (Int32 × Mem)) (hk75 : ∀ (x3 : Int32), AW G C (qI G C 0 0) 0 0 5 μ1 75 [none, none, some (.int (μ 0 12 8)), some (.int x3), none] [] (k75 x3)) (n : Nat) (x4 : Int32) (x5 : Int32), AW G C (qI G C 0 0) 0 0 5 μ1 31 [some (.ref (gad G 0 12)), some (.int a1), some (.int (μ 0 12 8)), some (.int x4), some (.int x5)] [] (lp_X10_heard_31 a1 μ μ1 k75 n x4 x5) := by
      intro k75 hk75 n
      induction n with
      | zero => intro x4 x5; exact aw_none
      | succ n ih =>
        intro x4 x5
        rw [lp_X10_heard_31]
        refine aw_iload (pc := 31) hC dX10_heard_31 rfl ?_
        refine aw_iload_n (pc := 33) (i := 2) hC dX10_heard_33 rfl rfl ?_
        refine aw_icmp_ge (pc := 34) (tgt := 75) hC dX10_heard_34 (by decide) (fun _ => ?_) (fun _ => ?_)
        · skip
          exact aw_drop [0, 1, 4] (hk75 x4)
        · skip
          refine aw_iload_n (pc := 37) (i := 3) hC dX10_heard_37 rfl rfl ?_
          refine aw_if_eq (pc := 38) (tgt := 75) hC dX10_heard_38 (by decide) (fun _ => ?_) (fun _ => ?_)
          · skip
            exact aw_drop [0, 1, 4] (hk75 x4)
          · skip
            refine aw_aload_n (pc := 41) (i := 0) hC dX10_heard_41 rfl rfl ?_
            refine aw_get (pc := 42) hC inX10 (v0 (j := 12) (by decide)) rfl rfl 7 (by decide) kw1321 rfl rfl dX10_heard_42 ?_
            refine aw_iload (pc := 45) hC dX10_heard_45 rfl ?_
            refine aw_iaload (pc := 47) hC (v0 (j := 17) (by decide)) rfl dX10_heard_47 ?_
            refine aw_iload (pc := 48) hC dX10_heard_48 rfl ?_
            refine aw_iconst (pc := 50) (v := 2) hC dX10_heard_50 ic2 ?_
            refine aw_irem (pc := 51) hC dX10_heard_51 (by decide) ?_
            refine aw_nmJ (fun (J60 : Int32 → Option (Int32 × Mem)) => ∀ (x6 : Int32), AW G C (qI G C 0 0) 0 0 5 μ1 60 [some (.ref (gad G 0 12)), some (.int a1), some (.int (μ 0 12 8)), none, some (.int x5)] [.int x6, .int (μ1 0 17 x5.toNatClampNeg)] (J60 x6)) (fun x6 => ?_) (fun J60 hJ60 => ?_)
            · skip
              refine aw_icmp_ge (pc := 60) (tgt := 67) hC dX10_heard_60 (by decide) (fun _ => ?_) (fun _ => ?_)
              · skip
                refine aw_iconst (pc := 67) (v := 0) hC dX10_heard_67 ic0 ?_
                refine aw_istore_n (pc := 68) (i := 3) hC dX10_heard_68 rfl rfl (by decide) ?_
                refine aw_iinc (pc := 69) (v := x5 + 1) hC dX10_heard_69 rfl (congrArg (HAdd.hAdd _) ic1) rfl (by decide) ?_
                refine aw_goto (pc := 72) (tgt := 31) hC dX10_heard_72 (by decide) ?_
                exact ih 0 (x5 + 1)
              · skip
                refine aw_iconst (pc := 63) (v := 1) hC dX10_heard_63 ic1 ?_
                refine aw_goto (pc := 64) (tgt := 68) hC dX10_heard_64 (by decide) ?_
                refine aw_istore_n (pc := 68) (i := 3) hC dX10_heard_68 rfl rfl (by decide) ?_
                refine aw_iinc (pc := 69) (v := x5 + 1) hC dX10_heard_69 rfl (congrArg (HAdd.hAdd _) ic1) rfl (by decide) ?_
                refine aw_goto (pc := 72) (tgt := 31) hC dX10_heard_72 (by decide) ?_
                exact ih 1 (x5 + 1)
            · skip
              refine aw_if_ne (pc := 52) (tgt := 59) hC dX10_heard_52 (by decide) (fun _ => ?_) (fun _ => ?_)
              · skip
                refine aw_iload_n (pc := 55) (i := 1) hC dX10_heard_55 rfl rfl ?_
                refine aw_goto (pc := 56) (tgt := 60) hC dX10_heard_56 (by decide) ?_
                exact aw_drop [3] (hJ60 a1)
              · skip
                refine aw_iconst (pc := 59) (v := 2) hC dX10_heard_59 ic2 ?_
                exact aw_drop [3] (hJ60 2)
    refine hL31 (fun (x3 : Int32) => if x3 = 0 then (some ((-1), μ1)) else (some ((μ 0 12 8), μ1))) (fun x3 => ?_) 4096 x2 0
    · skip
      refine aw_iload_n (pc := 75) (i := 3) hC dX10_heard_75 rfl rfl ?_
      refine aw_if_eq (pc := 76) (tgt := 83) hC dX10_heard_76 (by decide) (fun _ => ?_) (fun _ => ?_)
      · skip
        refine aw_iconst (pc := 83) (v := (-1)) hC dX10_heard_83 icm1 ?_
        exact aw_iret hC dX10_heard_84
      · skip
        refine aw_iload_n (pc := 79) (i := 2) hC dX10_heard_79 rfl rfl ?_
        refine aw_goto (pc := 80) (tgt := 84) hC dX10_heard_80 (by decide) ?_
        exact aw_iret hC dX10_heard_84
  · skip
    refine aw_nmJ (fun (J26 : Option (Int32 × Mem)) => AW G C (qI G C 0 0) 0 0 5 μ1 26 [some (.ref (gad G 0 12)), some (.int a1), some (.int (μ 0 12 8)), none, none] [] (J26)) ?_ (fun J26 hJ26 => ?_)
    · skip
      refine aw_iconst (pc := 26) (v := 0) hC dX10_heard_26 ic0 ?_
      exact hJ27 0
    · skip
      refine aw_if_ne (pc := 13) (tgt := 26) hC dX10_heard_13 (by decide) (fun _ => ?_) (fun _ => ?_)
      · skip
        refine aw_iload_n (pc := 16) (i := 2) hC dX10_heard_16 rfl rfl ?_
        refine aw_bipush (pc := 17) (v := 40) hC dX10_heard_17 bc40 ?_
        refine aw_icmp_gt (pc := 19) (tgt := 26) hC dX10_heard_19 (by decide) (fun _ => ?_) (fun _ => ?_)
        · skip
          exact hJ26
        · skip
          refine aw_iconst (pc := 22) (v := 1) hC dX10_heard_22 ic1 ?_
          refine aw_goto (pc := 23) (tgt := 27) hC dX10_heard_23 (by decide) ?_
          exact hJ27 1
      · skip
        exact hJ26
theorem dX10_shiftsBy_0 : decode cX10_shiftsBy 0 = .ok (.iconst 0, 1) := by decide +kernel
theorem dX10_shiftsBy_1 : decode cX10_shiftsBy 1 = .ok (.istore_n 2, 1) := by decide +kernel
theorem dX10_shiftsBy_2 : decode cX10_shiftsBy 2 = .ok (.iconst 0, 1) := by decide +kernel
theorem dX10_shiftsBy_3 : decode cX10_shiftsBy 3 = .ok (.istore_n 3, 1) := by decide +kernel
theorem dX10_shiftsBy_4 : decode cX10_shiftsBy 4 = .ok (.iload_n 3, 1) := by decide +kernel
theorem dX10_shiftsBy_5 : decode cX10_shiftsBy 5 = .ok (.bipush 7, 2) := by decide +kernel
theorem dX10_shiftsBy_7 : decode cX10_shiftsBy 7 = .ok (.if_icmp .ge 97, 3) := by decide +kernel
theorem dX10_shiftsBy_10 : decode cX10_shiftsBy 10 = .ok (.iconst 1, 1) := by decide +kernel
theorem dX10_shiftsBy_11 : decode cX10_shiftsBy 11 = .ok (.istore 4, 2) := by decide +kernel
theorem dX10_shiftsBy_13 : decode cX10_shiftsBy 13 = .ok (.iconst 0, 1) := by decide +kernel
theorem dX10_shiftsBy_14 : decode cX10_shiftsBy 14 = .ok (.istore 5, 2) := by decide +kernel
theorem dX10_shiftsBy_16 : decode cX10_shiftsBy 16 = .ok (.iload 5, 2) := by decide +kernel
theorem dX10_shiftsBy_18 : decode cX10_shiftsBy 18 = .ok (.iload_n 1, 1) := by decide +kernel
theorem dX10_shiftsBy_19 : decode cX10_shiftsBy 19 = .ok (.if_icmp .ge 64, 3) := by decide +kernel
theorem dX10_shiftsBy_22 : decode cX10_shiftsBy 22 = .ok (.iload 4, 2) := by decide +kernel
theorem dX10_shiftsBy_24 : decode cX10_shiftsBy 24 = .ok (.ifCond .eq 59, 3) := by decide +kernel
theorem dX10_shiftsBy_27 : decode cX10_shiftsBy 27 = .ok (.aload_n 0, 1) := by decide +kernel
theorem dX10_shiftsBy_28 : decode cX10_shiftsBy 28 = .ok (.getfield 22, 3) := by decide +kernel
theorem dX10_shiftsBy_31 : decode cX10_shiftsBy 31 = .ok (.iload 5, 2) := by decide +kernel
theorem dX10_shiftsBy_33 : decode cX10_shiftsBy 33 = .ok (.iaload, 1) := by decide +kernel
theorem dX10_shiftsBy_34 : decode cX10_shiftsBy 34 = .ok (.iload_n 3, 1) := by decide +kernel
theorem dX10_shiftsBy_35 : decode cX10_shiftsBy 35 = .ok (.iadd, 1) := by decide +kernel
theorem dX10_shiftsBy_36 : decode cX10_shiftsBy 36 = .ok (.bipush 7, 2) := by decide +kernel
theorem dX10_shiftsBy_38 : decode cX10_shiftsBy 38 = .ok (.irem, 1) := by decide +kernel
theorem dX10_shiftsBy_39 : decode cX10_shiftsBy 39 = .ok (.bipush 6, 2) := by decide +kernel
theorem dX10_shiftsBy_41 : decode cX10_shiftsBy 41 = .ok (.if_icmp .ne 7, 3) := by decide +kernel
theorem dX10_shiftsBy_44 : decode cX10_shiftsBy 44 = .ok (.iconst 1, 1) := by decide +kernel
theorem dX10_shiftsBy_45 : decode cX10_shiftsBy 45 = .ok (.goto 4, 3) := by decide +kernel
theorem dX10_shiftsBy_48 : decode cX10_shiftsBy 48 = .ok (.iconst 0, 1) := by decide +kernel
theorem dX10_shiftsBy_49 : decode cX10_shiftsBy 49 = .ok (.aload_n 0, 1) := by decide +kernel
theorem dX10_shiftsBy_50 : decode cX10_shiftsBy 50 = .ok (.getfield 22, 3) := by decide +kernel
theorem dX10_shiftsBy_53 : decode cX10_shiftsBy 53 = .ok (.iload 5, 2) := by decide +kernel
theorem dX10_shiftsBy_55 : decode cX10_shiftsBy 55 = .ok (.iconst 1, 1) := by decide +kernel
theorem dX10_shiftsBy_56 : decode cX10_shiftsBy 56 = .ok (.iadd, 1) := by decide +kernel
theorem dX10_shiftsBy_57 : decode cX10_shiftsBy 57 = .ok (.iaload, 1) := by decide +kernel
theorem dX10_shiftsBy_58 : decode cX10_shiftsBy 58 = .ok (.iconst 1, 1) := by decide +kernel
theorem dX10_shiftsBy_59 : decode cX10_shiftsBy 59 = .ok (.if_icmp .ne 7, 3) := by decide +kernel
theorem dX10_shiftsBy_62 : decode cX10_shiftsBy 62 = .ok (.iconst 1, 1) := by decide +kernel
theorem dX10_shiftsBy_63 : decode cX10_shiftsBy 63 = .ok (.goto 4, 3) := by decide +kernel
theorem dX10_shiftsBy_66 : decode cX10_shiftsBy 66 = .ok (.iconst 0, 1) := by decide +kernel
theorem dX10_shiftsBy_67 : decode cX10_shiftsBy 67 = .ok (.if_icmp .ne 7, 3) := by decide +kernel
theorem dX10_shiftsBy_70 : decode cX10_shiftsBy 70 = .ok (.iconst 1, 1) := by decide +kernel
theorem dX10_shiftsBy_71 : decode cX10_shiftsBy 71 = .ok (.goto 4, 3) := by decide +kernel
theorem dX10_shiftsBy_74 : decode cX10_shiftsBy 74 = .ok (.iconst 0, 1) := by decide +kernel
theorem dX10_shiftsBy_75 : decode cX10_shiftsBy 75 = .ok (.istore 4, 2) := by decide +kernel
theorem dX10_shiftsBy_77 : decode cX10_shiftsBy 77 = .ok (.iinc 5 2, 3) := by decide +kernel
theorem dX10_shiftsBy_80 : decode cX10_shiftsBy 80 = .ok (.goto (-64), 3) := by decide +kernel
theorem dX10_shiftsBy_83 : decode cX10_shiftsBy 83 = .ok (.iload_n 2, 1) := by decide +kernel
theorem dX10_shiftsBy_84 : decode cX10_shiftsBy 84 = .ok (.iload 4, 2) := by decide +kernel
theorem dX10_shiftsBy_86 : decode cX10_shiftsBy 86 = .ok (.ifCond .eq 9, 3) := by decide +kernel
theorem dX10_shiftsBy_89 : decode cX10_shiftsBy 89 = .ok (.iconst 1, 1) := by decide +kernel
theorem dX10_shiftsBy_90 : decode cX10_shiftsBy 90 = .ok (.iload_n 3, 1) := by decide +kernel
theorem dX10_shiftsBy_91 : decode cX10_shiftsBy 91 = .ok (.ishl, 1) := by decide +kernel
theorem dX10_shiftsBy_92 : decode cX10_shiftsBy 92 = .ok (.goto 4, 3) := by decide +kernel
theorem dX10_shiftsBy_95 : decode cX10_shiftsBy 95 = .ok (.iconst 0, 1) := by decide +kernel
theorem dX10_shiftsBy_96 : decode cX10_shiftsBy 96 = .ok (.ior, 1) := by decide +kernel
theorem dX10_shiftsBy_97 : decode cX10_shiftsBy 97 = .ok (.istore_n 2, 1) := by decide +kernel
theorem dX10_shiftsBy_98 : decode cX10_shiftsBy 98 = .ok (.iinc 3 1, 3) := by decide +kernel
theorem dX10_shiftsBy_101 : decode cX10_shiftsBy 101 = .ok (.goto (-97), 3) := by decide +kernel
theorem dX10_shiftsBy_104 : decode cX10_shiftsBy 104 = .ok (.iload_n 2, 1) := by decide +kernel
theorem dX10_shiftsBy_105 : decode cX10_shiftsBy 105 = .ok (.ireturn, 1) := by decide +kernel
def lp_X10_shiftsBy_16 (a1 : Int32) (μ : Mem) (x2 : Int32) (k83 : Int32 → Option (Int32)) : Nat → Int32 → Int32 → Option (Int32)
  | 0, _, _ => none
  | n + 1, x4, x5 => if a1 ≤ x5 then (k83 x4) else (if x4 = 0 then (k83 x4) else (ix x5 400 (nm (fun (x6 : Int32) => ix (x5 + 1) 400 (nm (fun (x7 : Int32) => if x6 = x7 then (lp_X10_shiftsBy_16 a1 μ x2 k83 n 1 (x5 + 2)) else (lp_X10_shiftsBy_16 a1 μ x2 k83 n 0 (x5 + 2))) fun (J67 : Int32 → Option (Int32)) => if (μ 0 17 (x5 + 1).toNatClampNeg) = 1 then (J67 1) else (J67 0))) fun (J49 : Int32 → Option (Int32)) => if (jrem ((μ 0 17 x5.toNatClampNeg) + x2) 7) = 6 then (J49 1) else (J49 0))))
def lp_X10_shiftsBy_4 (a1 : Int32) (μ : Mem) : Nat → Int32 → Int32 → Option (Int32)
  | 0, _, _ => none
  | n + 1, x1, x2 => if 7 ≤ x2 then (some x1) else (lp_X10_shiftsBy_16 a1 μ x2 (fun (x3 : Int32) => if x3 = 0 then (lp_X10_shiftsBy_4 a1 μ n (x1 ||| 0) (x2 + 1)) else (lp_X10_shiftsBy_4 a1 μ n (x1 ||| (jshl 1 x2)) (x2 + 1))) 4096 1 0)
def f_X10_shiftsBy (μ : Mem) (a1 : Int32) : Option (Int32) := lp_X10_shiftsBy_4 a1 μ 4096 0 0
set_option maxHeartbeats 4000000 in
set_option maxRecDepth 100000 in
theorem c_X10_shiftsBy (G : GG) (l : Launch) (μ : Mem) (a1 : Int32) : CR G l yX10_shiftsBy (.code yX10_shiftsBy cX10_shiftsBy 6 (some .int)) 1 [.ref (gad G 0 12), .int a1] μ (f_X10_shiftsBy μ a1) := by
  refine CR.of (own := "SaturdayKeepModel") (L0 := [some (.ref (gad G 0 12)), some (.int a1), none, none, none, none]) rfl rfl rfl (Nat.le_of_ble_eq_true rfl) (fun C hl hC => ?_)
  subst hl
  delta f_X10_shiftsBy
  refine aw_iconst (pc := 0) (v := 0) hC dX10_shiftsBy_0 ic0 ?_
  refine aw_istore_n (pc := 1) (i := 2) hC dX10_shiftsBy_1 rfl rfl (by decide) ?_
  refine aw_iconst (pc := 2) (v := 0) hC dX10_shiftsBy_2 ic0 ?_
  refine aw_istore_n (pc := 3) (i := 3) hC dX10_shiftsBy_3 rfl rfl (by decide) ?_
  have hL4 : ∀ (n : Nat) (x1 : Int32) (x2 : Int32), AW G C (qR G C 0 0 μ) 0 0 6 μ 4 [some (.ref (gad G 0 12)), some (.int a1), some (.int x1), some (.int x2), none, none] [] (lp_X10_shiftsBy_4 a1 μ n x1 x2) := by
    intro n
    induction n with
    | zero => intro x1 x2; exact aw_none
    | succ n ih =>
      intro x1 x2
      rw [lp_X10_shiftsBy_4]
      refine aw_iload_n (pc := 4) (i := 3) hC dX10_shiftsBy_4 rfl rfl ?_
      refine aw_bipush (pc := 5) (v := 7) hC dX10_shiftsBy_5 bc7 ?_
      refine aw_icmp_ge (pc := 7) (tgt := 104) hC dX10_shiftsBy_7 (by decide) (fun _ => ?_) (fun _ => ?_)
      · skip
        refine aw_iload_n (pc := 104) (i := 2) hC dX10_shiftsBy_104 rfl rfl ?_
        exact aw_iretR hC dX10_shiftsBy_105
      · skip
        refine aw_iconst (pc := 10) (v := 1) hC dX10_shiftsBy_10 ic1 ?_
        refine aw_istore (pc := 11) hC dX10_shiftsBy_11 rfl (by decide) ?_
        refine aw_iconst (pc := 13) (v := 0) hC dX10_shiftsBy_13 ic0 ?_
        refine aw_istore (pc := 14) hC dX10_shiftsBy_14 rfl (by decide) ?_
        have hL16 : ∀ (k83 : Int32 → Option (Int32)) (hk83 : ∀ (x3 : Int32), AW G C (qR G C 0 0 μ) 0 0 6 μ 83 [some (.ref (gad G 0 12)), some (.int a1), some (.int x1), some (.int x2), some (.int x3), none] [] (k83 x3)) (n : Nat) (x4 : Int32) (x5 : Int32), AW G C (qR G C 0 0 μ) 0 0 6 μ 16 [some (.ref (gad G 0 12)), some (.int a1), some (.int x1), some (.int x2), some (.int x4), some (.int x5)] [] (lp_X10_shiftsBy_16 a1 μ x2 k83 n x4 x5) := by
          intro k83 hk83 n
          induction n with
          | zero => intro x4 x5; exact aw_none
          | succ n ih =>
            intro x4 x5
            rw [lp_X10_shiftsBy_16]
            refine aw_iload (pc := 16) hC dX10_shiftsBy_16 rfl ?_
            refine aw_iload_n (pc := 18) (i := 1) hC dX10_shiftsBy_18 rfl rfl ?_
            refine aw_icmp_ge (pc := 19) (tgt := 83) hC dX10_shiftsBy_19 (by decide) (fun _ => ?_) (fun _ => ?_)
            · skip
              exact aw_drop [5] (hk83 x4)
            · skip
              refine aw_iload (pc := 22) hC dX10_shiftsBy_22 rfl ?_
              refine aw_if_eq (pc := 24) (tgt := 83) hC dX10_shiftsBy_24 (by decide) (fun _ => ?_) (fun _ => ?_)
              · skip
                exact aw_drop [5] (hk83 x4)
              · skip
                refine aw_aload_n (pc := 27) (i := 0) hC dX10_shiftsBy_27 rfl rfl ?_
                refine aw_get (pc := 28) hC inX10 (v0 (j := 12) (by decide)) rfl rfl 7 (by decide) kw1321 rfl rfl dX10_shiftsBy_28 ?_
                refine aw_iload (pc := 31) hC dX10_shiftsBy_31 rfl ?_
                refine aw_iaload (pc := 33) hC (v0 (j := 17) (by decide)) rfl dX10_shiftsBy_33 ?_
                refine aw_iload_n (pc := 34) (i := 3) hC dX10_shiftsBy_34 rfl rfl ?_
                refine aw_iadd (pc := 35) hC dX10_shiftsBy_35 ?_
                refine aw_bipush (pc := 36) (v := 7) hC dX10_shiftsBy_36 bc7 ?_
                refine aw_irem (pc := 38) hC dX10_shiftsBy_38 (by decide) ?_
                refine aw_bipush (pc := 39) (v := 6) hC dX10_shiftsBy_39 bc6 ?_
                refine aw_nmJ (fun (J49 : Int32 → Option (Int32)) => ∀ (x6 : Int32), AW G C (qR G C 0 0 μ) 0 0 6 μ 49 [some (.ref (gad G 0 12)), some (.int a1), some (.int x1), some (.int x2), none, some (.int x5)] [.int x6] (J49 x6)) (fun x6 => ?_) (fun J49 hJ49 => ?_)
                · skip
                  refine aw_aload_n (pc := 49) (i := 0) hC dX10_shiftsBy_49 rfl rfl ?_
                  refine aw_get (pc := 50) hC inX10 (v0 (j := 12) (by decide)) rfl rfl 7 (by decide) kw1321 rfl rfl dX10_shiftsBy_50 ?_
                  refine aw_iload (pc := 53) hC dX10_shiftsBy_53 rfl ?_
                  refine aw_iconst (pc := 55) (v := 1) hC dX10_shiftsBy_55 ic1 ?_
                  refine aw_iadd (pc := 56) hC dX10_shiftsBy_56 ?_
                  refine aw_iaload (pc := 57) hC (v0 (j := 17) (by decide)) rfl dX10_shiftsBy_57 ?_
                  refine aw_iconst (pc := 58) (v := 1) hC dX10_shiftsBy_58 ic1 ?_
                  refine aw_nmJ (fun (J67 : Int32 → Option (Int32)) => ∀ (x7 : Int32), AW G C (qR G C 0 0 μ) 0 0 6 μ 67 [some (.ref (gad G 0 12)), some (.int a1), some (.int x1), some (.int x2), none, some (.int x5)] [.int x7, .int x6] (J67 x7)) (fun x7 => ?_) (fun J67 hJ67 => ?_)
                  · skip
                    refine aw_icmp_ne (pc := 67) (tgt := 74) hC dX10_shiftsBy_67 (by decide) (fun _ => ?_) (fun _ => ?_)
                    · skip
                      refine aw_iconst (pc := 70) (v := 1) hC dX10_shiftsBy_70 ic1 ?_
                      refine aw_goto (pc := 71) (tgt := 75) hC dX10_shiftsBy_71 (by decide) ?_
                      refine aw_istore (pc := 75) hC dX10_shiftsBy_75 rfl (by decide) ?_
                      refine aw_iinc (pc := 77) (v := x5 + 2) hC dX10_shiftsBy_77 rfl (congrArg (HAdd.hAdd _) ic2) rfl (by decide) ?_
                      refine aw_goto (pc := 80) (tgt := 16) hC dX10_shiftsBy_80 (by decide) ?_
                      exact ih 1 (x5 + 2)
                    · skip
                      refine aw_iconst (pc := 74) (v := 0) hC dX10_shiftsBy_74 ic0 ?_
                      refine aw_istore (pc := 75) hC dX10_shiftsBy_75 rfl (by decide) ?_
                      refine aw_iinc (pc := 77) (v := x5 + 2) hC dX10_shiftsBy_77 rfl (congrArg (HAdd.hAdd _) ic2) rfl (by decide) ?_
                      refine aw_goto (pc := 80) (tgt := 16) hC dX10_shiftsBy_80 (by decide) ?_
                      exact ih 0 (x5 + 2)
                  · skip
                    refine aw_icmp_ne (pc := 59) (tgt := 66) hC dX10_shiftsBy_59 (by decide) (fun _ => ?_) (fun _ => ?_)
                    · skip
                      refine aw_iconst (pc := 62) (v := 1) hC dX10_shiftsBy_62 ic1 ?_
                      refine aw_goto (pc := 63) (tgt := 67) hC dX10_shiftsBy_63 (by decide) ?_
                      exact hJ67 1
                    · skip
                      refine aw_iconst (pc := 66) (v := 0) hC dX10_shiftsBy_66 ic0 ?_
                      exact hJ67 0
                · skip
                  refine aw_icmp_ne (pc := 41) (tgt := 48) hC dX10_shiftsBy_41 (by decide) (fun _ => ?_) (fun _ => ?_)
                  · skip
                    refine aw_iconst (pc := 44) (v := 1) hC dX10_shiftsBy_44 ic1 ?_
                    refine aw_goto (pc := 45) (tgt := 49) hC dX10_shiftsBy_45 (by decide) ?_
                    exact aw_drop [4] (hJ49 1)
                  · skip
                    refine aw_iconst (pc := 48) (v := 0) hC dX10_shiftsBy_48 ic0 ?_
                    exact aw_drop [4] (hJ49 0)
        refine hL16 (fun (x3 : Int32) => if x3 = 0 then (lp_X10_shiftsBy_4 a1 μ n (x1 ||| 0) (x2 + 1)) else (lp_X10_shiftsBy_4 a1 μ n (x1 ||| (jshl 1 x2)) (x2 + 1))) (fun x3 => ?_) 4096 1 0
        · skip
          refine aw_iload_n (pc := 83) (i := 2) hC dX10_shiftsBy_83 rfl rfl ?_
          refine aw_iload (pc := 84) hC dX10_shiftsBy_84 rfl ?_
          refine aw_if_eq (pc := 86) (tgt := 95) hC dX10_shiftsBy_86 (by decide) (fun _ => ?_) (fun _ => ?_)
          · skip
            refine aw_iconst (pc := 95) (v := 0) hC dX10_shiftsBy_95 ic0 ?_
            refine aw_ior (pc := 96) hC dX10_shiftsBy_96 ?_
            refine aw_istore_n (pc := 97) (i := 2) hC dX10_shiftsBy_97 rfl rfl (by decide) ?_
            refine aw_iinc (pc := 98) (v := x2 + 1) hC dX10_shiftsBy_98 rfl (congrArg (HAdd.hAdd _) ic1) rfl (by decide) ?_
            refine aw_goto (pc := 101) (tgt := 4) hC dX10_shiftsBy_101 (by decide) ?_
            exact aw_drop [4] (ih (x1 ||| 0) (x2 + 1))
          · skip
            refine aw_iconst (pc := 89) (v := 1) hC dX10_shiftsBy_89 ic1 ?_
            refine aw_iload_n (pc := 90) (i := 3) hC dX10_shiftsBy_90 rfl rfl ?_
            refine aw_ishl (pc := 91) hC dX10_shiftsBy_91 ?_
            refine aw_goto (pc := 92) (tgt := 96) hC dX10_shiftsBy_92 (by decide) ?_
            refine aw_ior (pc := 96) hC dX10_shiftsBy_96 ?_
            refine aw_istore_n (pc := 97) (i := 2) hC dX10_shiftsBy_97 rfl rfl (by decide) ?_
            refine aw_iinc (pc := 98) (v := x2 + 1) hC dX10_shiftsBy_98 rfl (congrArg (HAdd.hAdd _) ic1) rfl (by decide) ?_
            refine aw_goto (pc := 101) (tgt := 4) hC dX10_shiftsBy_101 (by decide) ?_
            exact aw_drop [4] (ih (x1 ||| (jshl 1 x2)) (x2 + 1))
  exact hL4 4096 0 0
theorem dX10_shifts_0 : decode cX10_shifts 0 = .ok (.aload_n 0, 1) := by decide +kernel
theorem dX10_shifts_1 : decode cX10_shifts 1 = .ok (.bipush 7, 2) := by decide +kernel
theorem dX10_shifts_3 : decode cX10_shifts 3 = .ok (.invokevirtual 324, 3) := by decide +kernel
theorem dX10_shifts_6 : decode cX10_shifts 6 = .ok (.istore_n 1, 1) := by decide +kernel
theorem dX10_shifts_7 : decode cX10_shifts 7 = .ok (.aload_n 0, 1) := by decide +kernel
theorem dX10_shifts_8 : decode cX10_shifts 8 = .ok (.iload_n 1, 1) := by decide +kernel
theorem dX10_shifts_9 : decode cX10_shifts 9 = .ok (.iconst (-1), 1) := by decide +kernel
theorem dX10_shifts_10 : decode cX10_shifts 10 = .ok (.if_icmp .ne 7, 3) := by decide +kernel
theorem dX10_shifts_13 : decode cX10_shifts 13 = .ok (.iconst 1, 1) := by decide +kernel
theorem dX10_shifts_14 : decode cX10_shifts 14 = .ok (.goto 4, 3) := by decide +kernel
theorem dX10_shifts_17 : decode cX10_shifts 17 = .ok (.iconst 0, 1) := by decide +kernel
theorem dX10_shifts_18 : decode cX10_shifts 18 = .ok (.putfield 42, 3) := by decide +kernel
theorem dX10_shifts_21 : decode cX10_shifts 21 = .ok (.aload_n 0, 1) := by decide +kernel
theorem dX10_shifts_22 : decode cX10_shifts 22 = .ok (.getfield 42, 3) := by decide +kernel
theorem dX10_shifts_25 : decode cX10_shifts 25 = .ok (.ifCond .le 7, 3) := by decide +kernel
theorem dX10_shifts_28 : decode cX10_shifts 28 = .ok (.iconst 0, 1) := by decide +kernel
theorem dX10_shifts_29 : decode cX10_shifts 29 = .ok (.goto 8, 3) := by decide +kernel
theorem dX10_shifts_32 : decode cX10_shifts 32 = .ok (.aload_n 0, 1) := by decide +kernel
theorem dX10_shifts_33 : decode cX10_shifts 33 = .ok (.iload_n 1, 1) := by decide +kernel
theorem dX10_shifts_34 : decode cX10_shifts 34 = .ok (.invokevirtual 327, 3) := by decide +kernel
theorem dX10_shifts_37 : decode cX10_shifts 37 = .ok (.ireturn, 1) := by decide +kernel
def f_X10_shifts (μ : Mem) : Option (Int32 × Mem) := (f_X10_heard μ 7).bind fun (q1 : Int32 × Mem) => nm (fun (x2 : Int32) => nm (upm q1.2 0 12 0 x2) fun (μ3 : Mem) => if (μ3 0 12 0) ≤ 0 then ((f_X10_shiftsBy μ3 q1.1).bind fun (q4 : Int32) => some (q4, μ3)) else (some (0, μ3))) fun (J18 : Int32 → Option (Int32 × Mem)) => if q1.1 = (-1) then (J18 1) else (J18 0)
set_option maxHeartbeats 4000000 in
set_option maxRecDepth 100000 in
theorem c_X10_shifts (G : GG) (l : Launch) (μ : Mem) : CI G l yX10_shifts (.code yX10_shifts cX10_shifts 2 (some .int)) 2 [.ref (gad G 0 12)] μ (f_X10_shifts μ) := by
  refine CI.of (own := "SaturdayKeepModel") (L0 := [some (.ref (gad G 0 12)), none]) rfl rfl rfl (Nat.le_of_ble_eq_true rfl) (fun C hl hC => ?_)
  subst hl
  delta f_X10_shifts
  refine aw_aload_n (pc := 0) (i := 0) hC dX10_shifts_0 rfl rfl ?_
  refine aw_bipush (pc := 1) (v := 7) hC dX10_shifts_1 bc7 ?_
  refine aw_callVI (pc := 3) (As := [.int 7]) hC mb_X10_heard kw1774 (by decide) (c_X10_heard G C.2.1   μ 7) (v0 (j := 12) (by decide)) rfl rfl rfl (Nat.le_of_ble_eq_true rfl) dX10_shifts_3 (fun q1 => ?_)
  refine aw_istore_n (pc := 6) (i := 1) hC dX10_shifts_6 rfl rfl (by decide) ?_
  refine aw_aload_n (pc := 7) (i := 0) hC dX10_shifts_7 rfl rfl ?_
  refine aw_iload_n (pc := 8) (i := 1) hC dX10_shifts_8 rfl rfl ?_
  refine aw_iconst (pc := 9) (v := (-1)) hC dX10_shifts_9 icm1 ?_
  refine aw_nmJ (fun (J18 : Int32 → Option (Int32 × Mem)) => ∀ (x2 : Int32), AW G C (qI G C 0 0) 0 0 2 q1.2 18 [some (.ref (gad G 0 12)), some (.int q1.1)] [.int x2, .ref (gad G 0 12)] (J18 x2)) (fun x2 => ?_) (fun J18 hJ18 => ?_)
  · skip
    refine aw_putIN (pc := 18) hC inX10 (v0 (j := 12) (by decide)) rfl rfl 0 (by decide) kw1314 rfl tyX10 tyX10_ok nmX10 rfl rfl (Nat.le_of_ble_eq_true rfl) rfl dX10_shifts_18 (fun μ3 => ?_)
    refine aw_aload_n (pc := 21) (i := 0) hC dX10_shifts_21 rfl rfl ?_
    refine aw_get (pc := 22) hC inX10 (v0 (j := 12) (by decide)) rfl rfl 0 (by decide) kw1314 rfl rfl dX10_shifts_22 ?_
    refine aw_if_le (pc := 25) (tgt := 32) hC dX10_shifts_25 (by decide) (fun _ => ?_) (fun _ => ?_)
    · skip
      refine aw_aload_n (pc := 32) (i := 0) hC dX10_shifts_32 rfl rfl ?_
      refine aw_iload_n (pc := 33) (i := 1) hC dX10_shifts_33 rfl rfl ?_
      refine aw_callVR (pc := 34) (As := [.int q1.1]) hC mb_X10_shiftsBy kw1778 (by decide) (c_X10_shiftsBy G C.2.1   μ3 q1.1) (v0 (j := 12) (by decide)) rfl rfl rfl (Nat.le_of_ble_eq_true rfl) dX10_shifts_34 (fun q4 => ?_)
      exact aw_iret hC dX10_shifts_37
    · skip
      refine aw_iconst (pc := 28) (v := 0) hC dX10_shifts_28 ic0 ?_
      refine aw_goto (pc := 29) (tgt := 37) hC dX10_shifts_29 (by decide) ?_
      exact aw_iret hC dX10_shifts_37
  · skip
    refine aw_icmp_ne (pc := 10) (tgt := 17) hC dX10_shifts_10 (by decide) (fun _ => ?_) (fun _ => ?_)
    · skip
      refine aw_iconst (pc := 13) (v := 1) hC dX10_shifts_13 ic1 ?_
      refine aw_goto (pc := 14) (tgt := 18) hC dX10_shifts_14 (by decide) ?_
      exact hJ18 1
    · skip
      refine aw_iconst (pc := 17) (v := 0) hC dX10_shifts_17 ic0 ?_
      exact hJ18 0
theorem dX10_ask_0 : decode cX10_ask 0 = .ok (.aload_n 0, 1) := by decide +kernel
theorem dX10_ask_1 : decode cX10_ask 1 = .ok (.bipush 7, 2) := by decide +kernel
theorem dX10_ask_3 : decode cX10_ask 3 = .ok (.invokevirtual 324, 3) := by decide +kernel
theorem dX10_ask_6 : decode cX10_ask 6 = .ok (.istore_n 1, 1) := by decide +kernel
theorem dX10_ask_7 : decode cX10_ask 7 = .ok (.aload_n 0, 1) := by decide +kernel
theorem dX10_ask_8 : decode cX10_ask 8 = .ok (.iload_n 1, 1) := by decide +kernel
theorem dX10_ask_9 : decode cX10_ask 9 = .ok (.iconst (-1), 1) := by decide +kernel
theorem dX10_ask_10 : decode cX10_ask 10 = .ok (.if_icmp .ne 7, 3) := by decide +kernel
theorem dX10_ask_13 : decode cX10_ask 13 = .ok (.iconst 1, 1) := by decide +kernel
theorem dX10_ask_14 : decode cX10_ask 14 = .ok (.goto 4, 3) := by decide +kernel
theorem dX10_ask_17 : decode cX10_ask 17 = .ok (.iconst 0, 1) := by decide +kernel
theorem dX10_ask_18 : decode cX10_ask 18 = .ok (.putfield 42, 3) := by decide +kernel
theorem dX10_ask_21 : decode cX10_ask 21 = .ok (.aload_n 0, 1) := by decide +kernel
theorem dX10_ask_22 : decode cX10_ask 22 = .ok (.getfield 42, 3) := by decide +kernel
theorem dX10_ask_25 : decode cX10_ask 25 = .ok (.ifCond .le 5, 3) := by decide +kernel
theorem dX10_ask_28 : decode cX10_ask 28 = .ok (.iconst 0, 1) := by decide +kernel
theorem dX10_ask_29 : decode cX10_ask 29 = .ok (.ireturn, 1) := by decide +kernel
theorem dX10_ask_30 : decode cX10_ask 30 = .ok (.aload_n 0, 1) := by decide +kernel
theorem dX10_ask_31 : decode cX10_ask 31 = .ok (.iload_n 1, 1) := by decide +kernel
theorem dX10_ask_32 : decode cX10_ask 32 = .ok (.invokevirtual 327, 3) := by decide +kernel
theorem dX10_ask_35 : decode cX10_ask 35 = .ok (.istore_n 2, 1) := by decide +kernel
theorem dX10_ask_36 : decode cX10_ask 36 = .ok (.iconst (-1), 1) := by decide +kernel
theorem dX10_ask_37 : decode cX10_ask 37 = .ok (.istore_n 3, 1) := by decide +kernel
theorem dX10_ask_38 : decode cX10_ask 38 = .ok (.ldc_w 308, 3) := by decide +kernel
theorem dX10_ask_41 : decode cX10_ask 41 = .ok (.istore 4, 2) := by decide +kernel
theorem dX10_ask_43 : decode cX10_ask 43 = .ok (.iconst 0, 1) := by decide +kernel
theorem dX10_ask_44 : decode cX10_ask 44 = .ok (.istore 5, 2) := by decide +kernel
theorem dX10_ask_46 : decode cX10_ask 46 = .ok (.iload 5, 2) := by decide +kernel
theorem dX10_ask_48 : decode cX10_ask 48 = .ok (.bipush 7, 2) := by decide +kernel
theorem dX10_ask_50 : decode cX10_ask 50 = .ok (.if_icmp .ge 76, 3) := by decide +kernel
theorem dX10_ask_53 : decode cX10_ask 53 = .ok (.iload_n 2, 1) := by decide +kernel
theorem dX10_ask_54 : decode cX10_ask 54 = .ok (.invokestatic 57, 3) := by decide +kernel
theorem dX10_ask_57 : decode cX10_ask 57 = .ok (.iconst 1, 1) := by decide +kernel
theorem dX10_ask_58 : decode cX10_ask 58 = .ok (.if_icmp .le 68, 3) := by decide +kernel
theorem dX10_ask_61 : decode cX10_ask 61 = .ok (.iload_n 2, 1) := by decide +kernel
theorem dX10_ask_62 : decode cX10_ask 62 = .ok (.bipush 13, 2) := by decide +kernel
theorem dX10_ask_64 : decode cX10_ask 64 = .ok (.iload 5, 2) := by decide +kernel
theorem dX10_ask_66 : decode cX10_ask 66 = .ok (.isub, 1) := by decide +kernel
theorem dX10_ask_67 : decode cX10_ask 67 = .ok (.bipush 7, 2) := by decide +kernel
theorem dX10_ask_69 : decode cX10_ask 69 = .ok (.irem, 1) := by decide +kernel
theorem dX10_ask_70 : decode cX10_ask 70 = .ok (.invokestatic 53, 3) := by decide +kernel
theorem dX10_ask_73 : decode cX10_ask 73 = .ok (.ifCond .eq 7, 3) := by decide +kernel
theorem dX10_ask_76 : decode cX10_ask 76 = .ok (.iconst 1, 1) := by decide +kernel
theorem dX10_ask_77 : decode cX10_ask 77 = .ok (.goto 4, 3) := by decide +kernel
theorem dX10_ask_80 : decode cX10_ask 80 = .ok (.iconst 0, 1) := by decide +kernel
theorem dX10_ask_81 : decode cX10_ask 81 = .ok (.istore 6, 2) := by decide +kernel
theorem dX10_ask_83 : decode cX10_ask 83 = .ok (.iload 6, 2) := by decide +kernel
theorem dX10_ask_85 : decode cX10_ask 85 = .ok (.iload_n 2, 1) := by decide +kernel
theorem dX10_ask_86 : decode cX10_ask 86 = .ok (.invokestatic 57, 3) := by decide +kernel
theorem dX10_ask_89 : decode cX10_ask 89 = .ok (.iload 6, 2) := by decide +kernel
theorem dX10_ask_91 : decode cX10_ask 91 = .ok (.isub, 1) := by decide +kernel
theorem dX10_ask_92 : decode cX10_ask 92 = .ok (.invokestatic 249, 3) := by decide +kernel
theorem dX10_ask_95 : decode cX10_ask 95 = .ok (.iload 4, 2) := by decide +kernel
theorem dX10_ask_97 : decode cX10_ask 97 = .ok (.if_icmp .lt 6, 3) := by decide +kernel
theorem dX10_ask_100 : decode cX10_ask 100 = .ok (.goto 20, 3) := by decide +kernel
theorem dX10_ask_103 : decode cX10_ask 103 = .ok (.iload 6, 2) := by decide +kernel
theorem dX10_ask_105 : decode cX10_ask 105 = .ok (.iload_n 2, 1) := by decide +kernel
theorem dX10_ask_106 : decode cX10_ask 106 = .ok (.invokestatic 57, 3) := by decide +kernel
theorem dX10_ask_109 : decode cX10_ask 109 = .ok (.iload 6, 2) := by decide +kernel
theorem dX10_ask_111 : decode cX10_ask 111 = .ok (.isub, 1) := by decide +kernel
theorem dX10_ask_112 : decode cX10_ask 112 = .ok (.invokestatic 249, 3) := by decide +kernel
theorem dX10_ask_115 : decode cX10_ask 115 = .ok (.istore 4, 2) := by decide +kernel
theorem dX10_ask_117 : decode cX10_ask 117 = .ok (.iload 5, 2) := by decide +kernel
theorem dX10_ask_119 : decode cX10_ask 119 = .ok (.istore_n 3, 1) := by decide +kernel
theorem dX10_ask_120 : decode cX10_ask 120 = .ok (.iinc 5 1, 3) := by decide +kernel
theorem dX10_ask_123 : decode cX10_ask 123 = .ok (.goto (-77), 3) := by decide +kernel
theorem dX10_ask_126 : decode cX10_ask 126 = .ok (.iload_n 3, 1) := by decide +kernel
theorem dX10_ask_127 : decode cX10_ask 127 = .ok (.ireturn, 1) := by decide +kernel
def lp_X10_ask_46 (μ3 : Mem) (q4 : Int32) : Nat → Int32 → Int32 → Int32 → Option (Int32 × Mem)
  | 0, _, _, _ => none
  | n + 1, x5, x6, x7 => if 7 ≤ x7 then (some (x5, μ3)) else ((f_X10_bits q4).bind fun (q8 : Int32) => if q8 ≤ 1 then (some (x5, μ3)) else ((f_X10_isOf q4 (jrem (13 - x7) 7)).bind fun (q9 : Int32) => nm (fun (x10 : Int32) => (f_X10_bits q4).bind fun (q11 : Int32) => (f_X10_greater x10 (q11 - x10)).bind fun (q12 : Int32) => if q12 < x6 then ((f_X10_bits q4).bind fun (q13 : Int32) => (f_X10_greater x10 (q13 - x10)).bind fun (q14 : Int32) => lp_X10_ask_46 μ3 q4 n x7 q14 (x7 + 1)) else (lp_X10_ask_46 μ3 q4 n x5 x6 (x7 + 1))) fun (J81 : Int32 → Option (Int32 × Mem)) => if q9 = 0 then (J81 0) else (J81 1)))
def f_X10_ask (μ : Mem) : Option (Int32 × Mem) := (f_X10_heard μ 7).bind fun (q1 : Int32 × Mem) => nm (fun (x2 : Int32) => nm (upm q1.2 0 12 0 x2) fun (μ3 : Mem) => if (μ3 0 12 0) ≤ 0 then ((f_X10_shiftsBy μ3 q1.1).bind fun (q4 : Int32) => lp_X10_ask_46 μ3 q4 4096 (-1) 2000000000 0) else (some (0, μ3))) fun (J18 : Int32 → Option (Int32 × Mem)) => if q1.1 = (-1) then (J18 1) else (J18 0)
set_option maxHeartbeats 4000000 in
set_option maxRecDepth 100000 in
theorem c_X10_ask (G : GG) (l : Launch) (μ : Mem) : CI G l yX10_ask (.code yX10_ask cX10_ask 7 (some .int)) 2 [.ref (gad G 0 12)] μ (f_X10_ask μ) := by
  refine CI.of (own := "SaturdayKeepModel") (L0 := [some (.ref (gad G 0 12)), none, none, none, none, none, none]) rfl rfl rfl (Nat.le_of_ble_eq_true rfl) (fun C hl hC => ?_)
  subst hl
  delta f_X10_ask
  refine aw_aload_n (pc := 0) (i := 0) hC dX10_ask_0 rfl rfl ?_
  refine aw_bipush (pc := 1) (v := 7) hC dX10_ask_1 bc7 ?_
  refine aw_callVI (pc := 3) (As := [.int 7]) hC mb_X10_heard kw1774 (by decide) (c_X10_heard G C.2.1   μ 7) (v0 (j := 12) (by decide)) rfl rfl rfl (Nat.le_of_ble_eq_true rfl) dX10_ask_3 (fun q1 => ?_)
  refine aw_istore_n (pc := 6) (i := 1) hC dX10_ask_6 rfl rfl (by decide) ?_
  refine aw_aload_n (pc := 7) (i := 0) hC dX10_ask_7 rfl rfl ?_
  refine aw_iload_n (pc := 8) (i := 1) hC dX10_ask_8 rfl rfl ?_
  refine aw_iconst (pc := 9) (v := (-1)) hC dX10_ask_9 icm1 ?_
  refine aw_nmJ (fun (J18 : Int32 → Option (Int32 × Mem)) => ∀ (x2 : Int32), AW G C (qI G C 0 0) 0 0 7 q1.2 18 [some (.ref (gad G 0 12)), some (.int q1.1), none, none, none, none, none] [.int x2, .ref (gad G 0 12)] (J18 x2)) (fun x2 => ?_) (fun J18 hJ18 => ?_)
  · skip
    refine aw_putIN (pc := 18) hC inX10 (v0 (j := 12) (by decide)) rfl rfl 0 (by decide) kw1314 rfl tyX10 tyX10_ok nmX10 rfl rfl (Nat.le_of_ble_eq_true rfl) rfl dX10_ask_18 (fun μ3 => ?_)
    refine aw_aload_n (pc := 21) (i := 0) hC dX10_ask_21 rfl rfl ?_
    refine aw_get (pc := 22) hC inX10 (v0 (j := 12) (by decide)) rfl rfl 0 (by decide) kw1314 rfl rfl dX10_ask_22 ?_
    refine aw_if_le (pc := 25) (tgt := 30) hC dX10_ask_25 (by decide) (fun _ => ?_) (fun _ => ?_)
    · skip
      refine aw_aload_n (pc := 30) (i := 0) hC dX10_ask_30 rfl rfl ?_
      refine aw_iload_n (pc := 31) (i := 1) hC dX10_ask_31 rfl rfl ?_
      refine aw_callVR (pc := 32) (As := [.int q1.1]) hC mb_X10_shiftsBy kw1778 (by decide) (c_X10_shiftsBy G C.2.1   μ3 q1.1) (v0 (j := 12) (by decide)) rfl rfl rfl (Nat.le_of_ble_eq_true rfl) dX10_ask_32 (fun q4 => ?_)
      refine aw_istore_n (pc := 35) (i := 2) hC dX10_ask_35 rfl rfl (by decide) ?_
      refine aw_iconst (pc := 36) (v := (-1)) hC dX10_ask_36 icm1 ?_
      refine aw_istore_n (pc := 37) (i := 3) hC dX10_ask_37 rfl rfl (by decide) ?_
      refine aw_ldcw (pc := 38) hC kw1753 dX10_ask_38 ?_
      refine aw_istore (pc := 41) hC dX10_ask_41 rfl (by decide) ?_
      refine aw_iconst (pc := 43) (v := 0) hC dX10_ask_43 ic0 ?_
      refine aw_istore (pc := 44) hC dX10_ask_44 rfl (by decide) ?_
      have hL46 : ∀ (n : Nat) (x5 : Int32) (x6 : Int32) (x7 : Int32), AW G C (qI G C 0 0) 0 0 7 μ3 46 [none, none, some (.int q4), some (.int x5), some (.int x6), some (.int x7), none] [] (lp_X10_ask_46 μ3 q4 n x5 x6 x7) := by
        intro n
        induction n with
        | zero => intro x5 x6 x7; exact aw_none
        | succ n ih =>
          intro x5 x6 x7
          rw [lp_X10_ask_46]
          refine aw_iload (pc := 46) hC dX10_ask_46 rfl ?_
          refine aw_bipush (pc := 48) (v := 7) hC dX10_ask_48 bc7 ?_
          refine aw_icmp_ge (pc := 50) (tgt := 126) hC dX10_ask_50 (by decide) (fun _ => ?_) (fun _ => ?_)
          · skip
            refine aw_iload_n (pc := 126) (i := 3) hC dX10_ask_126 rfl rfl ?_
            exact aw_iret hC dX10_ask_127
          · skip
            refine aw_iload_n (pc := 53) (i := 2) hC dX10_ask_53 rfl rfl ?_
            refine aw_callSR (pc := 54) (As := [.int q4]) hC ms_X10_bits kw1551 (by decide) (c_X10_bits G C.2.1   μ3 q4) rfl (Nat.le_of_ble_eq_true rfl) dX10_ask_54 (fun q8 => ?_)
            refine aw_iconst (pc := 57) (v := 1) hC dX10_ask_57 ic1 ?_
            refine aw_icmp_le (pc := 58) (tgt := 126) hC dX10_ask_58 (by decide) (fun _ => ?_) (fun _ => ?_)
            · skip
              refine aw_iload_n (pc := 126) (i := 3) hC dX10_ask_126 rfl rfl ?_
              exact aw_iret hC dX10_ask_127
            · skip
              refine aw_iload_n (pc := 61) (i := 2) hC dX10_ask_61 rfl rfl ?_
              refine aw_bipush (pc := 62) (v := 13) hC dX10_ask_62 bc13 ?_
              refine aw_iload (pc := 64) hC dX10_ask_64 rfl ?_
              refine aw_isub (pc := 66) hC dX10_ask_66 ?_
              refine aw_bipush (pc := 67) (v := 7) hC dX10_ask_67 bc7 ?_
              refine aw_irem (pc := 69) hC dX10_ask_69 (by decide) ?_
              refine aw_callSR (pc := 70) (As := [.int q4, .int (jrem (13 - x7) 7)]) hC ms_X10_isOf kw1578 (by decide) (c_X10_isOf G C.2.1   μ3 q4 (jrem (13 - x7) 7)) rfl (Nat.le_of_ble_eq_true rfl) dX10_ask_70 (fun q9 => ?_)
              refine aw_nmJ (fun (J81 : Int32 → Option (Int32 × Mem)) => ∀ (x10 : Int32), AW G C (qI G C 0 0) 0 0 7 μ3 81 [none, none, some (.int q4), some (.int x5), some (.int x6), some (.int x7), none] [.int x10] (J81 x10)) (fun x10 => ?_) (fun J81 hJ81 => ?_)
              · skip
                refine aw_istore (pc := 81) hC dX10_ask_81 rfl (by decide) ?_
                refine aw_iload (pc := 83) hC dX10_ask_83 rfl ?_
                refine aw_iload_n (pc := 85) (i := 2) hC dX10_ask_85 rfl rfl ?_
                refine aw_callSR (pc := 86) (As := [.int q4]) hC ms_X10_bits kw1551 (by decide) (c_X10_bits G C.2.1   μ3 q4) rfl (Nat.le_of_ble_eq_true rfl) dX10_ask_86 (fun q11 => ?_)
                refine aw_iload (pc := 89) hC dX10_ask_89 rfl ?_
                refine aw_isub (pc := 91) hC dX10_ask_91 ?_
                refine aw_callSR (pc := 92) (As := [.int x10, .int (q11 - x10)]) hC ms_X10_greater kw1663 (by decide) (c_X10_greater G C.2.1   μ3 x10 (q11 - x10)) rfl (Nat.le_of_ble_eq_true rfl) dX10_ask_92 (fun q12 => ?_)
                refine aw_iload (pc := 95) hC dX10_ask_95 rfl ?_
                refine aw_icmp_lt (pc := 97) (tgt := 103) hC dX10_ask_97 (by decide) (fun _ => ?_) (fun _ => ?_)
                · skip
                  refine aw_iload (pc := 103) hC dX10_ask_103 rfl ?_
                  refine aw_iload_n (pc := 105) (i := 2) hC dX10_ask_105 rfl rfl ?_
                  refine aw_callSR (pc := 106) (As := [.int q4]) hC ms_X10_bits kw1551 (by decide) (c_X10_bits G C.2.1   μ3 q4) rfl (Nat.le_of_ble_eq_true rfl) dX10_ask_106 (fun q13 => ?_)
                  refine aw_iload (pc := 109) hC dX10_ask_109 rfl ?_
                  refine aw_isub (pc := 111) hC dX10_ask_111 ?_
                  refine aw_callSR (pc := 112) (As := [.int x10, .int (q13 - x10)]) hC ms_X10_greater kw1663 (by decide) (c_X10_greater G C.2.1   μ3 x10 (q13 - x10)) rfl (Nat.le_of_ble_eq_true rfl) dX10_ask_112 (fun q14 => ?_)
                  refine aw_istore (pc := 115) hC dX10_ask_115 rfl (by decide) ?_
                  refine aw_iload (pc := 117) hC dX10_ask_117 rfl ?_
                  refine aw_istore_n (pc := 119) (i := 3) hC dX10_ask_119 rfl rfl (by decide) ?_
                  refine aw_iinc (pc := 120) (v := x7 + 1) hC dX10_ask_120 rfl (congrArg (HAdd.hAdd _) ic1) rfl (by decide) ?_
                  refine aw_goto (pc := 123) (tgt := 46) hC dX10_ask_123 (by decide) ?_
                  exact aw_drop [6] (ih x7 q14 (x7 + 1))
                · skip
                  refine aw_goto (pc := 100) (tgt := 120) hC dX10_ask_100 (by decide) ?_
                  refine aw_iinc (pc := 120) (v := x7 + 1) hC dX10_ask_120 rfl (congrArg (HAdd.hAdd _) ic1) rfl (by decide) ?_
                  refine aw_goto (pc := 123) (tgt := 46) hC dX10_ask_123 (by decide) ?_
                  exact aw_drop [6] (ih x5 x6 (x7 + 1))
              · skip
                refine aw_if_eq (pc := 73) (tgt := 80) hC dX10_ask_73 (by decide) (fun _ => ?_) (fun _ => ?_)
                · skip
                  refine aw_iconst (pc := 80) (v := 0) hC dX10_ask_80 ic0 ?_
                  exact hJ81 0
                · skip
                  refine aw_iconst (pc := 76) (v := 1) hC dX10_ask_76 ic1 ?_
                  refine aw_goto (pc := 77) (tgt := 81) hC dX10_ask_77 (by decide) ?_
                  exact hJ81 1
      exact aw_drop [0, 1] (hL46 4096 (-1) 2000000000 0)
    · skip
      refine aw_iconst (pc := 28) (v := 0) hC dX10_ask_28 ic0 ?_
      exact aw_iret hC dX10_ask_29
  · skip
    refine aw_icmp_ne (pc := 10) (tgt := 17) hC dX10_ask_10 (by decide) (fun _ => ?_) (fun _ => ?_)
    · skip
      refine aw_iconst (pc := 13) (v := 1) hC dX10_ask_13 ic1 ?_
      refine aw_goto (pc := 14) (tgt := 18) hC dX10_ask_14 (by decide) ?_
      exact hJ18 1
    · skip
      refine aw_iconst (pc := 17) (v := 0) hC dX10_ask_17 ic0 ?_
      exact hJ18 0
theorem dX10_weeksBy_0 : decode cX10_weeksBy 0 = .ok (.iconst 0, 1) := by decide +kernel
theorem dX10_weeksBy_1 : decode cX10_weeksBy 1 = .ok (.istore_n 2, 1) := by decide +kernel
theorem dX10_weeksBy_2 : decode cX10_weeksBy 2 = .ok (.iconst 0, 1) := by decide +kernel
theorem dX10_weeksBy_3 : decode cX10_weeksBy 3 = .ok (.istore_n 3, 1) := by decide +kernel
theorem dX10_weeksBy_4 : decode cX10_weeksBy 4 = .ok (.iload_n 3, 1) := by decide +kernel
theorem dX10_weeksBy_5 : decode cX10_weeksBy 5 = .ok (.bipush 52, 2) := by decide +kernel
theorem dX10_weeksBy_7 : decode cX10_weeksBy 7 = .ok (.if_icmp .ge 105, 3) := by decide +kernel
theorem dX10_weeksBy_10 : decode cX10_weeksBy 10 = .ok (.aload_n 0, 1) := by decide +kernel
theorem dX10_weeksBy_11 : decode cX10_weeksBy 11 = .ok (.getfield 38, 3) := by decide +kernel
theorem dX10_weeksBy_14 : decode cX10_weeksBy 14 = .ok (.iload_n 3, 1) := by decide +kernel
theorem dX10_weeksBy_15 : decode cX10_weeksBy 15 = .ok (.iconst 1, 1) := by decide +kernel
theorem dX10_weeksBy_16 : decode cX10_weeksBy 16 = .ok (.bastore, 1) := by decide +kernel
theorem dX10_weeksBy_17 : decode cX10_weeksBy 17 = .ok (.iconst 0, 1) := by decide +kernel
theorem dX10_weeksBy_18 : decode cX10_weeksBy 18 = .ok (.istore 4, 2) := by decide +kernel
theorem dX10_weeksBy_20 : decode cX10_weeksBy 20 = .ok (.iload 4, 2) := by decide +kernel
theorem dX10_weeksBy_22 : decode cX10_weeksBy 22 = .ok (.iload_n 1, 1) := by decide +kernel
theorem dX10_weeksBy_23 : decode cX10_weeksBy 23 = .ok (.if_icmp .ge 66, 3) := by decide +kernel
theorem dX10_weeksBy_26 : decode cX10_weeksBy 26 = .ok (.aload_n 0, 1) := by decide +kernel
theorem dX10_weeksBy_27 : decode cX10_weeksBy 27 = .ok (.getfield 38, 3) := by decide +kernel
theorem dX10_weeksBy_30 : decode cX10_weeksBy 30 = .ok (.iload_n 3, 1) := by decide +kernel
theorem dX10_weeksBy_31 : decode cX10_weeksBy 31 = .ok (.baload, 1) := by decide +kernel
theorem dX10_weeksBy_32 : decode cX10_weeksBy 32 = .ok (.ifCond .eq 57, 3) := by decide +kernel
theorem dX10_weeksBy_35 : decode cX10_weeksBy 35 = .ok (.aload_n 0, 1) := by decide +kernel
theorem dX10_weeksBy_36 : decode cX10_weeksBy 36 = .ok (.getfield 38, 3) := by decide +kernel
theorem dX10_weeksBy_39 : decode cX10_weeksBy 39 = .ok (.iload_n 3, 1) := by decide +kernel
theorem dX10_weeksBy_40 : decode cX10_weeksBy 40 = .ok (.aload_n 0, 1) := by decide +kernel
theorem dX10_weeksBy_41 : decode cX10_weeksBy 41 = .ok (.getfield 22, 3) := by decide +kernel
theorem dX10_weeksBy_44 : decode cX10_weeksBy 44 = .ok (.iload 4, 2) := by decide +kernel
theorem dX10_weeksBy_46 : decode cX10_weeksBy 46 = .ok (.iaload, 1) := by decide +kernel
theorem dX10_weeksBy_47 : decode cX10_weeksBy 47 = .ok (.iload_n 3, 1) := by decide +kernel
theorem dX10_weeksBy_48 : decode cX10_weeksBy 48 = .ok (.if_icmp .lt 7, 3) := by decide +kernel
theorem dX10_weeksBy_51 : decode cX10_weeksBy 51 = .ok (.iconst 1, 1) := by decide +kernel
theorem dX10_weeksBy_52 : decode cX10_weeksBy 52 = .ok (.goto 4, 3) := by decide +kernel
theorem dX10_weeksBy_55 : decode cX10_weeksBy 55 = .ok (.iconst 0, 1) := by decide +kernel
theorem dX10_weeksBy_56 : decode cX10_weeksBy 56 = .ok (.aload_n 0, 1) := by decide +kernel
theorem dX10_weeksBy_57 : decode cX10_weeksBy 57 = .ok (.getfield 22, 3) := by decide +kernel
theorem dX10_weeksBy_60 : decode cX10_weeksBy 60 = .ok (.iload 4, 2) := by decide +kernel
theorem dX10_weeksBy_62 : decode cX10_weeksBy 62 = .ok (.iconst 1, 1) := by decide +kernel
theorem dX10_weeksBy_63 : decode cX10_weeksBy 63 = .ok (.iadd, 1) := by decide +kernel
theorem dX10_weeksBy_64 : decode cX10_weeksBy 64 = .ok (.iaload, 1) := by decide +kernel
theorem dX10_weeksBy_65 : decode cX10_weeksBy 65 = .ok (.iconst 1, 1) := by decide +kernel
theorem dX10_weeksBy_66 : decode cX10_weeksBy 66 = .ok (.if_icmp .ne 7, 3) := by decide +kernel
theorem dX10_weeksBy_69 : decode cX10_weeksBy 69 = .ok (.iconst 1, 1) := by decide +kernel
theorem dX10_weeksBy_70 : decode cX10_weeksBy 70 = .ok (.goto 4, 3) := by decide +kernel
theorem dX10_weeksBy_73 : decode cX10_weeksBy 73 = .ok (.iconst 0, 1) := by decide +kernel
theorem dX10_weeksBy_74 : decode cX10_weeksBy 74 = .ok (.if_icmp .ne 7, 3) := by decide +kernel
theorem dX10_weeksBy_77 : decode cX10_weeksBy 77 = .ok (.iconst 1, 1) := by decide +kernel
theorem dX10_weeksBy_78 : decode cX10_weeksBy 78 = .ok (.goto 4, 3) := by decide +kernel
theorem dX10_weeksBy_81 : decode cX10_weeksBy 81 = .ok (.iconst 0, 1) := by decide +kernel
theorem dX10_weeksBy_82 : decode cX10_weeksBy 82 = .ok (.bastore, 1) := by decide +kernel
theorem dX10_weeksBy_83 : decode cX10_weeksBy 83 = .ok (.iinc 4 2, 3) := by decide +kernel
theorem dX10_weeksBy_86 : decode cX10_weeksBy 86 = .ok (.goto (-66), 3) := by decide +kernel
theorem dX10_weeksBy_89 : decode cX10_weeksBy 89 = .ok (.iload_n 2, 1) := by decide +kernel
theorem dX10_weeksBy_90 : decode cX10_weeksBy 90 = .ok (.aload_n 0, 1) := by decide +kernel
theorem dX10_weeksBy_91 : decode cX10_weeksBy 91 = .ok (.getfield 38, 3) := by decide +kernel
theorem dX10_weeksBy_94 : decode cX10_weeksBy 94 = .ok (.iload_n 3, 1) := by decide +kernel
theorem dX10_weeksBy_95 : decode cX10_weeksBy 95 = .ok (.baload, 1) := by decide +kernel
theorem dX10_weeksBy_96 : decode cX10_weeksBy 96 = .ok (.ifCond .eq 7, 3) := by decide +kernel
theorem dX10_weeksBy_99 : decode cX10_weeksBy 99 = .ok (.iconst 1, 1) := by decide +kernel
theorem dX10_weeksBy_100 : decode cX10_weeksBy 100 = .ok (.goto 4, 3) := by decide +kernel
theorem dX10_weeksBy_103 : decode cX10_weeksBy 103 = .ok (.iconst 0, 1) := by decide +kernel
theorem dX10_weeksBy_104 : decode cX10_weeksBy 104 = .ok (.iadd, 1) := by decide +kernel
theorem dX10_weeksBy_105 : decode cX10_weeksBy 105 = .ok (.istore_n 2, 1) := by decide +kernel
theorem dX10_weeksBy_106 : decode cX10_weeksBy 106 = .ok (.iinc 3 1, 3) := by decide +kernel
theorem dX10_weeksBy_109 : decode cX10_weeksBy 109 = .ok (.goto (-105), 3) := by decide +kernel
theorem dX10_weeksBy_112 : decode cX10_weeksBy 112 = .ok (.iload_n 2, 1) := by decide +kernel
theorem dX10_weeksBy_113 : decode cX10_weeksBy 113 = .ok (.ireturn, 1) := by decide +kernel
def lp_X10_weeksBy_20 (a1 : Int32) (x2 : Int32) (k89 : Mem → Option (Int32 × Mem)) : Nat → Int32 → Mem → Option (Int32 × Mem)
  | 0, _, _ => none
  | n + 1, x6, μ7 => if a1 ≤ x6 then (k89 μ7) else (ix x2 52 (if (μ7 0 21 x2.toNatClampNeg) = 0 then (k89 μ7) else (ix x6 400 (nm (fun (x8 : Int32) => ix (x6 + 1) 400 (nm (fun (x9 : Int32) => nm (fun (x10 : Int32) => ix x2 52 (bk x10 (nm (upm μ7 0 21 x2.toNatClampNeg x10) fun (μ11 : Mem) => lp_X10_weeksBy_20 a1 x2 k89 n (x6 + 2) μ11))) fun (J82 : Int32 → Option (Int32 × Mem)) => if x8 = x9 then (J82 1) else (J82 0)) fun (J74 : Int32 → Option (Int32 × Mem)) => if (μ7 0 17 (x6 + 1).toNatClampNeg) = 1 then (J74 1) else (J74 0))) fun (J56 : Int32 → Option (Int32 × Mem)) => if (μ7 0 17 x6.toNatClampNeg) < x2 then (J56 0) else (J56 1)))))
def lp_X10_weeksBy_4 (a1 : Int32) : Nat → Int32 → Int32 → Mem → Option (Int32 × Mem)
  | 0, _, _, _ => none
  | n + 1, x1, x2, μ3 => if 52 ≤ x2 then (some (x1, μ3)) else (ix x2 52 (bk 1 (nm (upm μ3 0 21 x2.toNatClampNeg 1) fun (μ4 : Mem) => lp_X10_weeksBy_20 a1 x2 (fun (μ5 : Mem) => ix x2 52 (if (μ5 0 21 x2.toNatClampNeg) = 0 then (lp_X10_weeksBy_4 a1 n (x1 + 0) (x2 + 1) μ5) else (lp_X10_weeksBy_4 a1 n (x1 + 1) (x2 + 1) μ5))) 4096 0 μ4)))
def f_X10_weeksBy (μ : Mem) (a1 : Int32) : Option (Int32 × Mem) := lp_X10_weeksBy_4 a1 4096 0 0 μ
set_option maxHeartbeats 4000000 in
set_option maxRecDepth 100000 in
theorem c_X10_weeksBy (G : GG) (l : Launch) (μ : Mem) (a1 : Int32) : CI G l yX10_weeksBy (.code yX10_weeksBy cX10_weeksBy 5 (some .int)) 1 [.ref (gad G 0 12), .int a1] μ (f_X10_weeksBy μ a1) := by
  refine CI.of (own := "SaturdayKeepModel") (L0 := [some (.ref (gad G 0 12)), some (.int a1), none, none, none]) rfl rfl rfl (Nat.le_of_ble_eq_true rfl) (fun C hl hC => ?_)
  subst hl
  delta f_X10_weeksBy
  refine aw_iconst (pc := 0) (v := 0) hC dX10_weeksBy_0 ic0 ?_
  refine aw_istore_n (pc := 1) (i := 2) hC dX10_weeksBy_1 rfl rfl (by decide) ?_
  refine aw_iconst (pc := 2) (v := 0) hC dX10_weeksBy_2 ic0 ?_
  refine aw_istore_n (pc := 3) (i := 3) hC dX10_weeksBy_3 rfl rfl (by decide) ?_
  have hL4 : ∀ (n : Nat) (x1 : Int32) (x2 : Int32) (μ3 : Mem), AW G C (qI G C 0 0) 0 0 5 μ3 4 [some (.ref (gad G 0 12)), some (.int a1), some (.int x1), some (.int x2), none] [] (lp_X10_weeksBy_4 a1 n x1 x2 μ3) := by
    intro n
    induction n with
    | zero => intro x1 x2 μ3; exact aw_none
    | succ n ih =>
      intro x1 x2 μ3
      rw [lp_X10_weeksBy_4]
      refine aw_iload_n (pc := 4) (i := 3) hC dX10_weeksBy_4 rfl rfl ?_
      refine aw_bipush (pc := 5) (v := 52) hC dX10_weeksBy_5 bc52 ?_
      refine aw_icmp_ge (pc := 7) (tgt := 112) hC dX10_weeksBy_7 (by decide) (fun _ => ?_) (fun _ => ?_)
      · skip
        refine aw_iload_n (pc := 112) (i := 2) hC dX10_weeksBy_112 rfl rfl ?_
        exact aw_iret hC dX10_weeksBy_113
      · skip
        refine aw_aload_n (pc := 10) (i := 0) hC dX10_weeksBy_10 rfl rfl ?_
        refine aw_get (pc := 11) hC inX10 (v0 (j := 12) (by decide)) rfl rfl 21 (by decide) kw1335 rfl rfl dX10_weeksBy_11 ?_
        refine aw_iload_n (pc := 14) (i := 3) hC dX10_weeksBy_14 rfl rfl ?_
        refine aw_iconst (pc := 15) (v := 1) hC dX10_weeksBy_15 ic1 ?_
        refine aw_zastoreN (pc := 16) hC (v0 (j := 21) (by decide)) (fun _ => rfl) dX10_weeksBy_16 (fun μ4 => ?_)
        refine aw_iconst (pc := 17) (v := 0) hC dX10_weeksBy_17 ic0 ?_
        refine aw_istore (pc := 18) hC dX10_weeksBy_18 rfl (by decide) ?_
        have hL20 : ∀ (k89 : Mem → Option (Int32 × Mem)) (hk89 : ∀ (μ5 : Mem), AW G C (qI G C 0 0) 0 0 5 μ5 89 [some (.ref (gad G 0 12)), some (.int a1), some (.int x1), some (.int x2), none] [] (k89 μ5)) (n : Nat) (x6 : Int32) (μ7 : Mem), AW G C (qI G C 0 0) 0 0 5 μ7 20 [some (.ref (gad G 0 12)), some (.int a1), some (.int x1), some (.int x2), some (.int x6)] [] (lp_X10_weeksBy_20 a1 x2 k89 n x6 μ7) := by
          intro k89 hk89 n
          induction n with
          | zero => intro x6 μ7; exact aw_none
          | succ n ih =>
            intro x6 μ7
            rw [lp_X10_weeksBy_20]
            refine aw_iload (pc := 20) hC dX10_weeksBy_20 rfl ?_
            refine aw_iload_n (pc := 22) (i := 1) hC dX10_weeksBy_22 rfl rfl ?_
            refine aw_icmp_ge (pc := 23) (tgt := 89) hC dX10_weeksBy_23 (by decide) (fun _ => ?_) (fun _ => ?_)
            · skip
              exact aw_drop [4] (hk89 μ7)
            · skip
              refine aw_aload_n (pc := 26) (i := 0) hC dX10_weeksBy_26 rfl rfl ?_
              refine aw_get (pc := 27) hC inX10 (v0 (j := 12) (by decide)) rfl rfl 21 (by decide) kw1335 rfl rfl dX10_weeksBy_27 ?_
              refine aw_iload_n (pc := 30) (i := 3) hC dX10_weeksBy_30 rfl rfl ?_
              refine aw_zaload (pc := 31) hC (v0 (j := 21) (by decide)) rfl dX10_weeksBy_31 ?_
              refine aw_if_eq (pc := 32) (tgt := 89) hC dX10_weeksBy_32 (by decide) (fun _ => ?_) (fun _ => ?_)
              · skip
                exact aw_drop [4] (hk89 μ7)
              · skip
                refine aw_aload_n (pc := 35) (i := 0) hC dX10_weeksBy_35 rfl rfl ?_
                refine aw_get (pc := 36) hC inX10 (v0 (j := 12) (by decide)) rfl rfl 21 (by decide) kw1335 rfl rfl dX10_weeksBy_36 ?_
                refine aw_iload_n (pc := 39) (i := 3) hC dX10_weeksBy_39 rfl rfl ?_
                refine aw_aload_n (pc := 40) (i := 0) hC dX10_weeksBy_40 rfl rfl ?_
                refine aw_get (pc := 41) hC inX10 (v0 (j := 12) (by decide)) rfl rfl 7 (by decide) kw1321 rfl rfl dX10_weeksBy_41 ?_
                refine aw_iload (pc := 44) hC dX10_weeksBy_44 rfl ?_
                refine aw_iaload (pc := 46) hC (v0 (j := 17) (by decide)) rfl dX10_weeksBy_46 ?_
                refine aw_iload_n (pc := 47) (i := 3) hC dX10_weeksBy_47 rfl rfl ?_
                refine aw_nmJ (fun (J56 : Int32 → Option (Int32 × Mem)) => ∀ (x8 : Int32), AW G C (qI G C 0 0) 0 0 5 μ7 56 [some (.ref (gad G 0 12)), some (.int a1), some (.int x1), some (.int x2), some (.int x6)] [.int x8, .int x2, .ref (gad G 0 21)] (J56 x8)) (fun x8 => ?_) (fun J56 hJ56 => ?_)
                · skip
                  refine aw_aload_n (pc := 56) (i := 0) hC dX10_weeksBy_56 rfl rfl ?_
                  refine aw_get (pc := 57) hC inX10 (v0 (j := 12) (by decide)) rfl rfl 7 (by decide) kw1321 rfl rfl dX10_weeksBy_57 ?_
                  refine aw_iload (pc := 60) hC dX10_weeksBy_60 rfl ?_
                  refine aw_iconst (pc := 62) (v := 1) hC dX10_weeksBy_62 ic1 ?_
                  refine aw_iadd (pc := 63) hC dX10_weeksBy_63 ?_
                  refine aw_iaload (pc := 64) hC (v0 (j := 17) (by decide)) rfl dX10_weeksBy_64 ?_
                  refine aw_iconst (pc := 65) (v := 1) hC dX10_weeksBy_65 ic1 ?_
                  refine aw_nmJ (fun (J74 : Int32 → Option (Int32 × Mem)) => ∀ (x9 : Int32), AW G C (qI G C 0 0) 0 0 5 μ7 74 [some (.ref (gad G 0 12)), some (.int a1), some (.int x1), some (.int x2), some (.int x6)] [.int x9, .int x8, .int x2, .ref (gad G 0 21)] (J74 x9)) (fun x9 => ?_) (fun J74 hJ74 => ?_)
                  · skip
                    refine aw_nmJ (fun (J82 : Int32 → Option (Int32 × Mem)) => ∀ (x10 : Int32), AW G C (qI G C 0 0) 0 0 5 μ7 82 [some (.ref (gad G 0 12)), some (.int a1), some (.int x1), some (.int x2), some (.int x6)] [.int x10, .int x2, .ref (gad G 0 21)] (J82 x10)) (fun x10 => ?_) (fun J82 hJ82 => ?_)
                    · skip
                      refine aw_zastoreN (pc := 82) hC (v0 (j := 21) (by decide)) (fun _ => rfl) dX10_weeksBy_82 (fun μ11 => ?_)
                      refine aw_iinc (pc := 83) (v := x6 + 2) hC dX10_weeksBy_83 rfl (congrArg (HAdd.hAdd _) ic2) rfl (by decide) ?_
                      refine aw_goto (pc := 86) (tgt := 20) hC dX10_weeksBy_86 (by decide) ?_
                      exact ih (x6 + 2) μ11
                    · skip
                      refine aw_icmp_ne (pc := 74) (tgt := 81) hC dX10_weeksBy_74 (by decide) (fun _ => ?_) (fun _ => ?_)
                      · skip
                        refine aw_iconst (pc := 77) (v := 1) hC dX10_weeksBy_77 ic1 ?_
                        refine aw_goto (pc := 78) (tgt := 82) hC dX10_weeksBy_78 (by decide) ?_
                        exact hJ82 1
                      · skip
                        refine aw_iconst (pc := 81) (v := 0) hC dX10_weeksBy_81 ic0 ?_
                        exact hJ82 0
                  · skip
                    refine aw_icmp_ne (pc := 66) (tgt := 73) hC dX10_weeksBy_66 (by decide) (fun _ => ?_) (fun _ => ?_)
                    · skip
                      refine aw_iconst (pc := 69) (v := 1) hC dX10_weeksBy_69 ic1 ?_
                      refine aw_goto (pc := 70) (tgt := 74) hC dX10_weeksBy_70 (by decide) ?_
                      exact hJ74 1
                    · skip
                      refine aw_iconst (pc := 73) (v := 0) hC dX10_weeksBy_73 ic0 ?_
                      exact hJ74 0
                · skip
                  refine aw_icmp_lt (pc := 48) (tgt := 55) hC dX10_weeksBy_48 (by decide) (fun _ => ?_) (fun _ => ?_)
                  · skip
                    refine aw_iconst (pc := 55) (v := 0) hC dX10_weeksBy_55 ic0 ?_
                    exact hJ56 0
                  · skip
                    refine aw_iconst (pc := 51) (v := 1) hC dX10_weeksBy_51 ic1 ?_
                    refine aw_goto (pc := 52) (tgt := 56) hC dX10_weeksBy_52 (by decide) ?_
                    exact hJ56 1
        refine hL20 (fun (μ5 : Mem) => ix x2 52 (if (μ5 0 21 x2.toNatClampNeg) = 0 then (lp_X10_weeksBy_4 a1 n (x1 + 0) (x2 + 1) μ5) else (lp_X10_weeksBy_4 a1 n (x1 + 1) (x2 + 1) μ5))) (fun μ5 => ?_) 4096 0 μ4
        · skip
          refine aw_iload_n (pc := 89) (i := 2) hC dX10_weeksBy_89 rfl rfl ?_
          refine aw_aload_n (pc := 90) (i := 0) hC dX10_weeksBy_90 rfl rfl ?_
          refine aw_get (pc := 91) hC inX10 (v0 (j := 12) (by decide)) rfl rfl 21 (by decide) kw1335 rfl rfl dX10_weeksBy_91 ?_
          refine aw_iload_n (pc := 94) (i := 3) hC dX10_weeksBy_94 rfl rfl ?_
          refine aw_zaload (pc := 95) hC (v0 (j := 21) (by decide)) rfl dX10_weeksBy_95 ?_
          refine aw_if_eq (pc := 96) (tgt := 103) hC dX10_weeksBy_96 (by decide) (fun _ => ?_) (fun _ => ?_)
          · skip
            refine aw_iconst (pc := 103) (v := 0) hC dX10_weeksBy_103 ic0 ?_
            refine aw_iadd (pc := 104) hC dX10_weeksBy_104 ?_
            refine aw_istore_n (pc := 105) (i := 2) hC dX10_weeksBy_105 rfl rfl (by decide) ?_
            refine aw_iinc (pc := 106) (v := x2 + 1) hC dX10_weeksBy_106 rfl (congrArg (HAdd.hAdd _) ic1) rfl (by decide) ?_
            refine aw_goto (pc := 109) (tgt := 4) hC dX10_weeksBy_109 (by decide) ?_
            exact ih (x1 + 0) (x2 + 1) μ5
          · skip
            refine aw_iconst (pc := 99) (v := 1) hC dX10_weeksBy_99 ic1 ?_
            refine aw_goto (pc := 100) (tgt := 104) hC dX10_weeksBy_100 (by decide) ?_
            refine aw_iadd (pc := 104) hC dX10_weeksBy_104 ?_
            refine aw_istore_n (pc := 105) (i := 2) hC dX10_weeksBy_105 rfl rfl (by decide) ?_
            refine aw_iinc (pc := 106) (v := x2 + 1) hC dX10_weeksBy_106 rfl (congrArg (HAdd.hAdd _) ic1) rfl (by decide) ?_
            refine aw_goto (pc := 109) (tgt := 4) hC dX10_weeksBy_109 (by decide) ?_
            exact ih (x1 + 1) (x2 + 1) μ5
  exact hL4 4096 0 0 μ
theorem dX10_bored_0 : decode cX10_bored 0 = .ok (.aload_n 0, 1) := by decide +kernel
theorem dX10_bored_1 : decode cX10_bored 1 = .ok (.bipush 52, 2) := by decide +kernel
theorem dX10_bored_3 : decode cX10_bored 3 = .ok (.invokevirtual 324, 3) := by decide +kernel
theorem dX10_bored_6 : decode cX10_bored 6 = .ok (.istore_n 2, 1) := by decide +kernel
theorem dX10_bored_7 : decode cX10_bored 7 = .ok (.aload_n 0, 1) := by decide +kernel
theorem dX10_bored_8 : decode cX10_bored 8 = .ok (.iload_n 2, 1) := by decide +kernel
theorem dX10_bored_9 : decode cX10_bored 9 = .ok (.iconst (-1), 1) := by decide +kernel
theorem dX10_bored_10 : decode cX10_bored 10 = .ok (.if_icmp .ne 7, 3) := by decide +kernel
theorem dX10_bored_13 : decode cX10_bored 13 = .ok (.iconst 1, 1) := by decide +kernel
theorem dX10_bored_14 : decode cX10_bored 14 = .ok (.goto 4, 3) := by decide +kernel
theorem dX10_bored_17 : decode cX10_bored 17 = .ok (.iconst 0, 1) := by decide +kernel
theorem dX10_bored_18 : decode cX10_bored 18 = .ok (.putfield 42, 3) := by decide +kernel
theorem dX10_bored_21 : decode cX10_bored 21 = .ok (.aload_n 0, 1) := by decide +kernel
theorem dX10_bored_22 : decode cX10_bored 22 = .ok (.getfield 42, 3) := by decide +kernel
theorem dX10_bored_25 : decode cX10_bored 25 = .ok (.ifCond .le 5, 3) := by decide +kernel
theorem dX10_bored_28 : decode cX10_bored 28 = .ok (.iconst 0, 1) := by decide +kernel
theorem dX10_bored_29 : decode cX10_bored 29 = .ok (.ireturn, 1) := by decide +kernel
theorem dX10_bored_30 : decode cX10_bored 30 = .ok (.aload_n 0, 1) := by decide +kernel
theorem dX10_bored_31 : decode cX10_bored 31 = .ok (.iload_n 2, 1) := by decide +kernel
theorem dX10_bored_32 : decode cX10_bored 32 = .ok (.invokevirtual 330, 3) := by decide +kernel
theorem dX10_bored_35 : decode cX10_bored 35 = .ok (.istore_n 3, 1) := by decide +kernel
theorem dX10_bored_36 : decode cX10_bored 36 = .ok (.iload_n 1, 1) := by decide +kernel
theorem dX10_bored_37 : decode cX10_bored 37 = .ok (.ifCond .ne 5, 3) := by decide +kernel
theorem dX10_bored_40 : decode cX10_bored 40 = .ok (.iload_n 3, 1) := by decide +kernel
theorem dX10_bored_41 : decode cX10_bored 41 = .ok (.ireturn, 1) := by decide +kernel
theorem dX10_bored_42 : decode cX10_bored 42 = .ok (.iconst 0, 1) := by decide +kernel
theorem dX10_bored_43 : decode cX10_bored 43 = .ok (.istore 4, 2) := by decide +kernel
theorem dX10_bored_45 : decode cX10_bored 45 = .ok (.iload 4, 2) := by decide +kernel
theorem dX10_bored_47 : decode cX10_bored 47 = .ok (.bipush 52, 2) := by decide +kernel
theorem dX10_bored_49 : decode cX10_bored 49 = .ok (.if_icmp .ge 22, 3) := by decide +kernel
theorem dX10_bored_52 : decode cX10_bored 52 = .ok (.aload_n 0, 1) := by decide +kernel
theorem dX10_bored_53 : decode cX10_bored 53 = .ok (.getfield 38, 3) := by decide +kernel
theorem dX10_bored_56 : decode cX10_bored 56 = .ok (.iload 4, 2) := by decide +kernel
theorem dX10_bored_58 : decode cX10_bored 58 = .ok (.baload, 1) := by decide +kernel
theorem dX10_bored_59 : decode cX10_bored 59 = .ok (.ifCond .eq 6, 3) := by decide +kernel
theorem dX10_bored_62 : decode cX10_bored 62 = .ok (.iload 4, 2) := by decide +kernel
theorem dX10_bored_64 : decode cX10_bored 64 = .ok (.ireturn, 1) := by decide +kernel
theorem dX10_bored_65 : decode cX10_bored 65 = .ok (.iinc 4 1, 3) := by decide +kernel
theorem dX10_bored_68 : decode cX10_bored 68 = .ok (.goto (-23), 3) := by decide +kernel
theorem dX10_bored_71 : decode cX10_bored 71 = .ok (.iconst (-1), 1) := by decide +kernel
theorem dX10_bored_72 : decode cX10_bored 72 = .ok (.ireturn, 1) := by decide +kernel
def lp_X10_bored_45 (q4 : Int32 × Mem) : Nat → Int32 → Option (Int32 × Mem)
  | 0, _ => none
  | n + 1, x5 => if 52 ≤ x5 then (some ((-1), q4.2)) else (ix x5 52 (if (q4.2 0 21 x5.toNatClampNeg) = 0 then (lp_X10_bored_45 q4 n (x5 + 1)) else (some (x5, q4.2))))
def f_X10_bored (μ : Mem) (a1 : Int32) : Option (Int32 × Mem) := (f_X10_heard μ 52).bind fun (q1 : Int32 × Mem) => nm (fun (x2 : Int32) => nm (upm q1.2 0 12 0 x2) fun (μ3 : Mem) => if (μ3 0 12 0) ≤ 0 then ((f_X10_weeksBy μ3 q1.1).bind fun (q4 : Int32 × Mem) => if a1 = 0 then (some (q4.1, q4.2)) else (lp_X10_bored_45 q4 4096 0)) else (some (0, μ3))) fun (J18 : Int32 → Option (Int32 × Mem)) => if q1.1 = (-1) then (J18 1) else (J18 0)
set_option maxHeartbeats 4000000 in
set_option maxRecDepth 100000 in
theorem c_X10_bored (G : GG) (l : Launch) (μ : Mem) (a1 : Int32) : CI G l yX10_bored (.code yX10_bored cX10_bored 5 (some .int)) 2 [.ref (gad G 0 12), .int a1] μ (f_X10_bored μ a1) := by
  refine CI.of (own := "SaturdayKeepModel") (L0 := [some (.ref (gad G 0 12)), some (.int a1), none, none, none]) rfl rfl rfl (Nat.le_of_ble_eq_true rfl) (fun C hl hC => ?_)
  subst hl
  delta f_X10_bored
  refine aw_aload_n (pc := 0) (i := 0) hC dX10_bored_0 rfl rfl ?_
  refine aw_bipush (pc := 1) (v := 52) hC dX10_bored_1 bc52 ?_
  refine aw_callVI (pc := 3) (As := [.int 52]) hC mb_X10_heard kw1774 (by decide) (c_X10_heard G C.2.1   μ 52) (v0 (j := 12) (by decide)) rfl rfl rfl (Nat.le_of_ble_eq_true rfl) dX10_bored_3 (fun q1 => ?_)
  refine aw_istore_n (pc := 6) (i := 2) hC dX10_bored_6 rfl rfl (by decide) ?_
  refine aw_aload_n (pc := 7) (i := 0) hC dX10_bored_7 rfl rfl ?_
  refine aw_iload_n (pc := 8) (i := 2) hC dX10_bored_8 rfl rfl ?_
  refine aw_iconst (pc := 9) (v := (-1)) hC dX10_bored_9 icm1 ?_
  refine aw_nmJ (fun (J18 : Int32 → Option (Int32 × Mem)) => ∀ (x2 : Int32), AW G C (qI G C 0 0) 0 0 5 q1.2 18 [some (.ref (gad G 0 12)), some (.int a1), some (.int q1.1), none, none] [.int x2, .ref (gad G 0 12)] (J18 x2)) (fun x2 => ?_) (fun J18 hJ18 => ?_)
  · skip
    refine aw_putIN (pc := 18) hC inX10 (v0 (j := 12) (by decide)) rfl rfl 0 (by decide) kw1314 rfl tyX10 tyX10_ok nmX10 rfl rfl (Nat.le_of_ble_eq_true rfl) rfl dX10_bored_18 (fun μ3 => ?_)
    refine aw_aload_n (pc := 21) (i := 0) hC dX10_bored_21 rfl rfl ?_
    refine aw_get (pc := 22) hC inX10 (v0 (j := 12) (by decide)) rfl rfl 0 (by decide) kw1314 rfl rfl dX10_bored_22 ?_
    refine aw_if_le (pc := 25) (tgt := 30) hC dX10_bored_25 (by decide) (fun _ => ?_) (fun _ => ?_)
    · skip
      refine aw_aload_n (pc := 30) (i := 0) hC dX10_bored_30 rfl rfl ?_
      refine aw_iload_n (pc := 31) (i := 2) hC dX10_bored_31 rfl rfl ?_
      refine aw_callVI (pc := 32) (As := [.int q1.1]) hC mb_X10_weeksBy kw1790 (by decide) (c_X10_weeksBy G C.2.1   μ3 q1.1) (v0 (j := 12) (by decide)) rfl rfl rfl (Nat.le_of_ble_eq_true rfl) dX10_bored_32 (fun q4 => ?_)
      refine aw_istore_n (pc := 35) (i := 3) hC dX10_bored_35 rfl rfl (by decide) ?_
      refine aw_iload_n (pc := 36) (i := 1) hC dX10_bored_36 rfl rfl ?_
      refine aw_if_ne (pc := 37) (tgt := 42) hC dX10_bored_37 (by decide) (fun _ => ?_) (fun _ => ?_)
      · skip
        refine aw_iload_n (pc := 40) (i := 3) hC dX10_bored_40 rfl rfl ?_
        exact aw_iret hC dX10_bored_41
      · skip
        refine aw_iconst (pc := 42) (v := 0) hC dX10_bored_42 ic0 ?_
        refine aw_istore (pc := 43) hC dX10_bored_43 rfl (by decide) ?_
        have hL45 : ∀ (n : Nat) (x5 : Int32), AW G C (qI G C 0 0) 0 0 5 q4.2 45 [some (.ref (gad G 0 12)), none, none, none, some (.int x5)] [] (lp_X10_bored_45 q4 n x5) := by
          intro n
          induction n with
          | zero => intro x5; exact aw_none
          | succ n ih =>
            intro x5
            rw [lp_X10_bored_45]
            refine aw_iload (pc := 45) hC dX10_bored_45 rfl ?_
            refine aw_bipush (pc := 47) (v := 52) hC dX10_bored_47 bc52 ?_
            refine aw_icmp_ge (pc := 49) (tgt := 71) hC dX10_bored_49 (by decide) (fun _ => ?_) (fun _ => ?_)
            · skip
              refine aw_iconst (pc := 71) (v := (-1)) hC dX10_bored_71 icm1 ?_
              exact aw_iret hC dX10_bored_72
            · skip
              refine aw_aload_n (pc := 52) (i := 0) hC dX10_bored_52 rfl rfl ?_
              refine aw_get (pc := 53) hC inX10 (v0 (j := 12) (by decide)) rfl rfl 21 (by decide) kw1335 rfl rfl dX10_bored_53 ?_
              refine aw_iload (pc := 56) hC dX10_bored_56 rfl ?_
              refine aw_zaload (pc := 58) hC (v0 (j := 21) (by decide)) rfl dX10_bored_58 ?_
              refine aw_if_eq (pc := 59) (tgt := 65) hC dX10_bored_59 (by decide) (fun _ => ?_) (fun _ => ?_)
              · skip
                refine aw_iinc (pc := 65) (v := x5 + 1) hC dX10_bored_65 rfl (congrArg (HAdd.hAdd _) ic1) rfl (by decide) ?_
                refine aw_goto (pc := 68) (tgt := 45) hC dX10_bored_68 (by decide) ?_
                exact ih (x5 + 1)
              · skip
                refine aw_iload (pc := 62) hC dX10_bored_62 rfl ?_
                exact aw_iret hC dX10_bored_64
        exact aw_drop [1, 2, 3] (hL45 4096 0)
    · skip
      refine aw_iconst (pc := 28) (v := 0) hC dX10_bored_28 ic0 ?_
      exact aw_iret hC dX10_bored_29
  · skip
    refine aw_icmp_ne (pc := 10) (tgt := 17) hC dX10_bored_10 (by decide) (fun _ => ?_) (fun _ => ?_)
    · skip
      refine aw_iconst (pc := 13) (v := 1) hC dX10_bored_13 ic1 ?_
      refine aw_goto (pc := 14) (tgt := 18) hC dX10_bored_14 (by decide) ?_
      exact hJ18 1
    · skip
      refine aw_iconst (pc := 17) (v := 0) hC dX10_bored_17 ic0 ?_
      exact hJ18 0
theorem dX10_look_0 : decode cX10_look 0 = .ok (.aload_n 0, 1) := by decide +kernel
theorem dX10_look_1 : decode cX10_look 1 = .ok (.bipush 52, 2) := by decide +kernel
theorem dX10_look_3 : decode cX10_look 3 = .ok (.invokevirtual 324, 3) := by decide +kernel
theorem dX10_look_6 : decode cX10_look 6 = .ok (.istore_n 1, 1) := by decide +kernel
theorem dX10_look_7 : decode cX10_look 7 = .ok (.aload_n 0, 1) := by decide +kernel
theorem dX10_look_8 : decode cX10_look 8 = .ok (.iload_n 1, 1) := by decide +kernel
theorem dX10_look_9 : decode cX10_look 9 = .ok (.iconst (-1), 1) := by decide +kernel
theorem dX10_look_10 : decode cX10_look 10 = .ok (.if_icmp .ne 7, 3) := by decide +kernel
theorem dX10_look_13 : decode cX10_look 13 = .ok (.iconst 1, 1) := by decide +kernel
theorem dX10_look_14 : decode cX10_look 14 = .ok (.goto 4, 3) := by decide +kernel
theorem dX10_look_17 : decode cX10_look 17 = .ok (.iconst 0, 1) := by decide +kernel
theorem dX10_look_18 : decode cX10_look 18 = .ok (.putfield 42, 3) := by decide +kernel
theorem dX10_look_21 : decode cX10_look 21 = .ok (.aload_n 0, 1) := by decide +kernel
theorem dX10_look_22 : decode cX10_look 22 = .ok (.getfield 42, 3) := by decide +kernel
theorem dX10_look_25 : decode cX10_look 25 = .ok (.ifCond .le 5, 3) := by decide +kernel
theorem dX10_look_28 : decode cX10_look 28 = .ok (.iconst 0, 1) := by decide +kernel
theorem dX10_look_29 : decode cX10_look 29 = .ok (.ireturn, 1) := by decide +kernel
theorem dX10_look_30 : decode cX10_look 30 = .ok (.aload_n 0, 1) := by decide +kernel
theorem dX10_look_31 : decode cX10_look 31 = .ok (.iload_n 1, 1) := by decide +kernel
theorem dX10_look_32 : decode cX10_look 32 = .ok (.invokevirtual 330, 3) := by decide +kernel
theorem dX10_look_35 : decode cX10_look 35 = .ok (.istore_n 2, 1) := by decide +kernel
theorem dX10_look_36 : decode cX10_look 36 = .ok (.iconst (-1), 1) := by decide +kernel
theorem dX10_look_37 : decode cX10_look 37 = .ok (.istore_n 3, 1) := by decide +kernel
theorem dX10_look_38 : decode cX10_look 38 = .ok (.ldc_w 308, 3) := by decide +kernel
theorem dX10_look_41 : decode cX10_look 41 = .ok (.istore 4, 2) := by decide +kernel
theorem dX10_look_43 : decode cX10_look 43 = .ok (.iconst 0, 1) := by decide +kernel
theorem dX10_look_44 : decode cX10_look 44 = .ok (.istore 5, 2) := by decide +kernel
theorem dX10_look_46 : decode cX10_look 46 = .ok (.iconst 0, 1) := by decide +kernel
theorem dX10_look_47 : decode cX10_look 47 = .ok (.istore 6, 2) := by decide +kernel
theorem dX10_look_49 : decode cX10_look 49 = .ok (.iload 6, 2) := by decide +kernel
theorem dX10_look_51 : decode cX10_look 51 = .ok (.bipush 52, 2) := by decide +kernel
theorem dX10_look_53 : decode cX10_look 53 = .ok (.if_icmp .ge 65, 3) := by decide +kernel
theorem dX10_look_56 : decode cX10_look 56 = .ok (.iload_n 2, 1) := by decide +kernel
theorem dX10_look_57 : decode cX10_look 57 = .ok (.iconst 1, 1) := by decide +kernel
theorem dX10_look_58 : decode cX10_look 58 = .ok (.if_icmp .le 60, 3) := by decide +kernel
theorem dX10_look_61 : decode cX10_look 61 = .ok (.iload 5, 2) := by decide +kernel
theorem dX10_look_63 : decode cX10_look 63 = .ok (.aload_n 0, 1) := by decide +kernel
theorem dX10_look_64 : decode cX10_look 64 = .ok (.getfield 38, 3) := by decide +kernel
theorem dX10_look_67 : decode cX10_look 67 = .ok (.iload 6, 2) := by decide +kernel
theorem dX10_look_69 : decode cX10_look 69 = .ok (.baload, 1) := by decide +kernel
theorem dX10_look_70 : decode cX10_look 70 = .ok (.ifCond .eq 7, 3) := by decide +kernel
theorem dX10_look_73 : decode cX10_look 73 = .ok (.iconst 1, 1) := by decide +kernel
theorem dX10_look_74 : decode cX10_look 74 = .ok (.goto 4, 3) := by decide +kernel
theorem dX10_look_77 : decode cX10_look 77 = .ok (.iconst 0, 1) := by decide +kernel
theorem dX10_look_78 : decode cX10_look 78 = .ok (.iadd, 1) := by decide +kernel
theorem dX10_look_79 : decode cX10_look 79 = .ok (.istore 5, 2) := by decide +kernel
theorem dX10_look_81 : decode cX10_look 81 = .ok (.iload 5, 2) := by decide +kernel
theorem dX10_look_83 : decode cX10_look 83 = .ok (.iload_n 2, 1) := by decide +kernel
theorem dX10_look_84 : decode cX10_look 84 = .ok (.iload 5, 2) := by decide +kernel
theorem dX10_look_86 : decode cX10_look 86 = .ok (.isub, 1) := by decide +kernel
theorem dX10_look_87 : decode cX10_look 87 = .ok (.invokestatic 249, 3) := by decide +kernel
theorem dX10_look_90 : decode cX10_look 90 = .ok (.iload 4, 2) := by decide +kernel
theorem dX10_look_92 : decode cX10_look 92 = .ok (.if_icmp .lt 6, 3) := by decide +kernel
theorem dX10_look_95 : decode cX10_look 95 = .ok (.goto 17, 3) := by decide +kernel
theorem dX10_look_98 : decode cX10_look 98 = .ok (.iload 5, 2) := by decide +kernel
theorem dX10_look_100 : decode cX10_look 100 = .ok (.iload_n 2, 1) := by decide +kernel
theorem dX10_look_101 : decode cX10_look 101 = .ok (.iload 5, 2) := by decide +kernel
theorem dX10_look_103 : decode cX10_look 103 = .ok (.isub, 1) := by decide +kernel
theorem dX10_look_104 : decode cX10_look 104 = .ok (.invokestatic 249, 3) := by decide +kernel
theorem dX10_look_107 : decode cX10_look 107 = .ok (.istore 4, 2) := by decide +kernel
theorem dX10_look_109 : decode cX10_look 109 = .ok (.iload 6, 2) := by decide +kernel
theorem dX10_look_111 : decode cX10_look 111 = .ok (.istore_n 3, 1) := by decide +kernel
theorem dX10_look_112 : decode cX10_look 112 = .ok (.iinc 6 1, 3) := by decide +kernel
theorem dX10_look_115 : decode cX10_look 115 = .ok (.goto (-66), 3) := by decide +kernel
theorem dX10_look_118 : decode cX10_look 118 = .ok (.iload_n 3, 1) := by decide +kernel
theorem dX10_look_119 : decode cX10_look 119 = .ok (.ireturn, 1) := by decide +kernel
def lp_X10_look_49 (q4 : Int32 × Mem) : Nat → Int32 → Int32 → Int32 → Int32 → Option (Int32 × Mem)
  | 0, _, _, _, _ => none
  | n + 1, x5, x6, x7, x8 => if 52 ≤ x8 then (some (x5, q4.2)) else (if q4.1 ≤ 1 then (some (x5, q4.2)) else (ix x8 52 (nm (fun (x9 : Int32) => (f_X10_greater (x7 + x9) (q4.1 - (x7 + x9))).bind fun (q10 : Int32) => if q10 < x6 then ((f_X10_greater (x7 + x9) (q4.1 - (x7 + x9))).bind fun (q11 : Int32) => lp_X10_look_49 q4 n x8 q11 (x7 + x9) (x8 + 1)) else (lp_X10_look_49 q4 n x5 x6 (x7 + x9) (x8 + 1))) fun (J78 : Int32 → Option (Int32 × Mem)) => if (q4.2 0 21 x8.toNatClampNeg) = 0 then (J78 0) else (J78 1))))
def f_X10_look (μ : Mem) : Option (Int32 × Mem) := (f_X10_heard μ 52).bind fun (q1 : Int32 × Mem) => nm (fun (x2 : Int32) => nm (upm q1.2 0 12 0 x2) fun (μ3 : Mem) => if (μ3 0 12 0) ≤ 0 then ((f_X10_weeksBy μ3 q1.1).bind fun (q4 : Int32 × Mem) => lp_X10_look_49 q4 4096 (-1) 2000000000 0 0) else (some (0, μ3))) fun (J18 : Int32 → Option (Int32 × Mem)) => if q1.1 = (-1) then (J18 1) else (J18 0)
set_option maxHeartbeats 4000000 in
set_option maxRecDepth 100000 in
theorem c_X10_look (G : GG) (l : Launch) (μ : Mem) : CI G l yX10_look (.code yX10_look cX10_look 7 (some .int)) 2 [.ref (gad G 0 12)] μ (f_X10_look μ) := by
  refine CI.of (own := "SaturdayKeepModel") (L0 := [some (.ref (gad G 0 12)), none, none, none, none, none, none]) rfl rfl rfl (Nat.le_of_ble_eq_true rfl) (fun C hl hC => ?_)
  subst hl
  delta f_X10_look
  refine aw_aload_n (pc := 0) (i := 0) hC dX10_look_0 rfl rfl ?_
  refine aw_bipush (pc := 1) (v := 52) hC dX10_look_1 bc52 ?_
  refine aw_callVI (pc := 3) (As := [.int 52]) hC mb_X10_heard kw1774 (by decide) (c_X10_heard G C.2.1   μ 52) (v0 (j := 12) (by decide)) rfl rfl rfl (Nat.le_of_ble_eq_true rfl) dX10_look_3 (fun q1 => ?_)
  refine aw_istore_n (pc := 6) (i := 1) hC dX10_look_6 rfl rfl (by decide) ?_
  refine aw_aload_n (pc := 7) (i := 0) hC dX10_look_7 rfl rfl ?_
  refine aw_iload_n (pc := 8) (i := 1) hC dX10_look_8 rfl rfl ?_
  refine aw_iconst (pc := 9) (v := (-1)) hC dX10_look_9 icm1 ?_
  refine aw_nmJ (fun (J18 : Int32 → Option (Int32 × Mem)) => ∀ (x2 : Int32), AW G C (qI G C 0 0) 0 0 7 q1.2 18 [some (.ref (gad G 0 12)), some (.int q1.1), none, none, none, none, none] [.int x2, .ref (gad G 0 12)] (J18 x2)) (fun x2 => ?_) (fun J18 hJ18 => ?_)
  · skip
    refine aw_putIN (pc := 18) hC inX10 (v0 (j := 12) (by decide)) rfl rfl 0 (by decide) kw1314 rfl tyX10 tyX10_ok nmX10 rfl rfl (Nat.le_of_ble_eq_true rfl) rfl dX10_look_18 (fun μ3 => ?_)
    refine aw_aload_n (pc := 21) (i := 0) hC dX10_look_21 rfl rfl ?_
    refine aw_get (pc := 22) hC inX10 (v0 (j := 12) (by decide)) rfl rfl 0 (by decide) kw1314 rfl rfl dX10_look_22 ?_
    refine aw_if_le (pc := 25) (tgt := 30) hC dX10_look_25 (by decide) (fun _ => ?_) (fun _ => ?_)
    · skip
      refine aw_aload_n (pc := 30) (i := 0) hC dX10_look_30 rfl rfl ?_
      refine aw_iload_n (pc := 31) (i := 1) hC dX10_look_31 rfl rfl ?_
      refine aw_callVI (pc := 32) (As := [.int q1.1]) hC mb_X10_weeksBy kw1790 (by decide) (c_X10_weeksBy G C.2.1   μ3 q1.1) (v0 (j := 12) (by decide)) rfl rfl rfl (Nat.le_of_ble_eq_true rfl) dX10_look_32 (fun q4 => ?_)
      refine aw_istore_n (pc := 35) (i := 2) hC dX10_look_35 rfl rfl (by decide) ?_
      refine aw_iconst (pc := 36) (v := (-1)) hC dX10_look_36 icm1 ?_
      refine aw_istore_n (pc := 37) (i := 3) hC dX10_look_37 rfl rfl (by decide) ?_
      refine aw_ldcw (pc := 38) hC kw1753 dX10_look_38 ?_
      refine aw_istore (pc := 41) hC dX10_look_41 rfl (by decide) ?_
      refine aw_iconst (pc := 43) (v := 0) hC dX10_look_43 ic0 ?_
      refine aw_istore (pc := 44) hC dX10_look_44 rfl (by decide) ?_
      refine aw_iconst (pc := 46) (v := 0) hC dX10_look_46 ic0 ?_
      refine aw_istore (pc := 47) hC dX10_look_47 rfl (by decide) ?_
      have hL49 : ∀ (n : Nat) (x5 : Int32) (x6 : Int32) (x7 : Int32) (x8 : Int32), AW G C (qI G C 0 0) 0 0 7 q4.2 49 [some (.ref (gad G 0 12)), none, some (.int q4.1), some (.int x5), some (.int x6), some (.int x7), some (.int x8)] [] (lp_X10_look_49 q4 n x5 x6 x7 x8) := by
        intro n
        induction n with
        | zero => intro x5 x6 x7 x8; exact aw_none
        | succ n ih =>
          intro x5 x6 x7 x8
          rw [lp_X10_look_49]
          refine aw_iload (pc := 49) hC dX10_look_49 rfl ?_
          refine aw_bipush (pc := 51) (v := 52) hC dX10_look_51 bc52 ?_
          refine aw_icmp_ge (pc := 53) (tgt := 118) hC dX10_look_53 (by decide) (fun _ => ?_) (fun _ => ?_)
          · skip
            refine aw_iload_n (pc := 118) (i := 3) hC dX10_look_118 rfl rfl ?_
            exact aw_iret hC dX10_look_119
          · skip
            refine aw_iload_n (pc := 56) (i := 2) hC dX10_look_56 rfl rfl ?_
            refine aw_iconst (pc := 57) (v := 1) hC dX10_look_57 ic1 ?_
            refine aw_icmp_le (pc := 58) (tgt := 118) hC dX10_look_58 (by decide) (fun _ => ?_) (fun _ => ?_)
            · skip
              refine aw_iload_n (pc := 118) (i := 3) hC dX10_look_118 rfl rfl ?_
              exact aw_iret hC dX10_look_119
            · skip
              refine aw_iload (pc := 61) hC dX10_look_61 rfl ?_
              refine aw_aload_n (pc := 63) (i := 0) hC dX10_look_63 rfl rfl ?_
              refine aw_get (pc := 64) hC inX10 (v0 (j := 12) (by decide)) rfl rfl 21 (by decide) kw1335 rfl rfl dX10_look_64 ?_
              refine aw_iload (pc := 67) hC dX10_look_67 rfl ?_
              refine aw_zaload (pc := 69) hC (v0 (j := 21) (by decide)) rfl dX10_look_69 ?_
              refine aw_nmJ (fun (J78 : Int32 → Option (Int32 × Mem)) => ∀ (x9 : Int32), AW G C (qI G C 0 0) 0 0 7 q4.2 78 [some (.ref (gad G 0 12)), none, some (.int q4.1), some (.int x5), some (.int x6), none, some (.int x8)] [.int x9, .int x7] (J78 x9)) (fun x9 => ?_) (fun J78 hJ78 => ?_)
              · skip
                refine aw_iadd (pc := 78) hC dX10_look_78 ?_
                refine aw_istore (pc := 79) hC dX10_look_79 rfl (by decide) ?_
                refine aw_iload (pc := 81) hC dX10_look_81 rfl ?_
                refine aw_iload_n (pc := 83) (i := 2) hC dX10_look_83 rfl rfl ?_
                refine aw_iload (pc := 84) hC dX10_look_84 rfl ?_
                refine aw_isub (pc := 86) hC dX10_look_86 ?_
                refine aw_callSR (pc := 87) (As := [.int (x7 + x9), .int (q4.1 - (x7 + x9))]) hC ms_X10_greater kw1663 (by decide) (c_X10_greater G C.2.1   q4.2 (x7 + x9) (q4.1 - (x7 + x9))) rfl (Nat.le_of_ble_eq_true rfl) dX10_look_87 (fun q10 => ?_)
                refine aw_iload (pc := 90) hC dX10_look_90 rfl ?_
                refine aw_icmp_lt (pc := 92) (tgt := 98) hC dX10_look_92 (by decide) (fun _ => ?_) (fun _ => ?_)
                · skip
                  refine aw_iload (pc := 98) hC dX10_look_98 rfl ?_
                  refine aw_iload_n (pc := 100) (i := 2) hC dX10_look_100 rfl rfl ?_
                  refine aw_iload (pc := 101) hC dX10_look_101 rfl ?_
                  refine aw_isub (pc := 103) hC dX10_look_103 ?_
                  refine aw_callSR (pc := 104) (As := [.int (x7 + x9), .int (q4.1 - (x7 + x9))]) hC ms_X10_greater kw1663 (by decide) (c_X10_greater G C.2.1   q4.2 (x7 + x9) (q4.1 - (x7 + x9))) rfl (Nat.le_of_ble_eq_true rfl) dX10_look_104 (fun q11 => ?_)
                  refine aw_istore (pc := 107) hC dX10_look_107 rfl (by decide) ?_
                  refine aw_iload (pc := 109) hC dX10_look_109 rfl ?_
                  refine aw_istore_n (pc := 111) (i := 3) hC dX10_look_111 rfl rfl (by decide) ?_
                  refine aw_iinc (pc := 112) (v := x8 + 1) hC dX10_look_112 rfl (congrArg (HAdd.hAdd _) ic1) rfl (by decide) ?_
                  refine aw_goto (pc := 115) (tgt := 49) hC dX10_look_115 (by decide) ?_
                  exact ih x8 q11 (x7 + x9) (x8 + 1)
                · skip
                  refine aw_goto (pc := 95) (tgt := 112) hC dX10_look_95 (by decide) ?_
                  refine aw_iinc (pc := 112) (v := x8 + 1) hC dX10_look_112 rfl (congrArg (HAdd.hAdd _) ic1) rfl (by decide) ?_
                  refine aw_goto (pc := 115) (tgt := 49) hC dX10_look_115 (by decide) ?_
                  exact ih x5 x6 (x7 + x9) (x8 + 1)
              · skip
                refine aw_if_eq (pc := 70) (tgt := 77) hC dX10_look_70 (by decide) (fun _ => ?_) (fun _ => ?_)
                · skip
                  refine aw_iconst (pc := 77) (v := 0) hC dX10_look_77 ic0 ?_
                  exact aw_drop [5] (hJ78 0)
                · skip
                  refine aw_iconst (pc := 73) (v := 1) hC dX10_look_73 ic1 ?_
                  refine aw_goto (pc := 74) (tgt := 78) hC dX10_look_74 (by decide) ?_
                  exact aw_drop [5] (hJ78 1)
      exact aw_drop [1] (hL49 4096 (-1) 2000000000 0 0)
    · skip
      refine aw_iconst (pc := 28) (v := 0) hC dX10_look_28 ic0 ?_
      exact aw_iret hC dX10_look_29
  · skip
    refine aw_icmp_ne (pc := 10) (tgt := 17) hC dX10_look_10 (by decide) (fun _ => ?_) (fun _ => ?_)
    · skip
      refine aw_iconst (pc := 13) (v := 1) hC dX10_look_13 ic1 ?_
      refine aw_goto (pc := 14) (tgt := 18) hC dX10_look_14 (by decide) ?_
      exact hJ18 1
    · skip
      refine aw_iconst (pc := 17) (v := 0) hC dX10_look_17 ic0 ?_
      exact hJ18 0
theorem dX10_keenest_0 : decode cX10_keenest 0 = .ok (.aload_n 0, 1) := by decide +kernel
theorem dX10_keenest_1 : decode cX10_keenest 1 = .ok (.iconst 0, 1) := by decide +kernel
theorem dX10_keenest_2 : decode cX10_keenest 2 = .ok (.putfield 42, 3) := by decide +kernel
theorem dX10_keenest_5 : decode cX10_keenest 5 = .ok (.iconst (-1), 1) := by decide +kernel
theorem dX10_keenest_6 : decode cX10_keenest 6 = .ok (.istore_n 1, 1) := by decide +kernel
theorem dX10_keenest_7 : decode cX10_keenest 7 = .ok (.iconst 0, 1) := by decide +kernel
theorem dX10_keenest_8 : decode cX10_keenest 8 = .ok (.istore_n 2, 1) := by decide +kernel
theorem dX10_keenest_9 : decode cX10_keenest 9 = .ok (.iload_n 2, 1) := by decide +kernel
theorem dX10_keenest_10 : decode cX10_keenest 10 = .ok (.aload_n 0, 1) := by decide +kernel
theorem dX10_keenest_11 : decode cX10_keenest 11 = .ok (.getfield 7, 3) := by decide +kernel
theorem dX10_keenest_14 : decode cX10_keenest 14 = .ok (.iconst 3, 1) := by decide +kernel
theorem dX10_keenest_15 : decode cX10_keenest 15 = .ok (.iaload, 1) := by decide +kernel
theorem dX10_keenest_16 : decode cX10_keenest 16 = .ok (.if_icmp .ge 37, 3) := by decide +kernel
theorem dX10_keenest_19 : decode cX10_keenest 19 = .ok (.aload_n 0, 1) := by decide +kernel
theorem dX10_keenest_20 : decode cX10_keenest 20 = .ok (.iload_n 2, 1) := by decide +kernel
theorem dX10_keenest_21 : decode cX10_keenest 21 = .ok (.invokevirtual 236, 3) := by decide +kernel
theorem dX10_keenest_24 : decode cX10_keenest 24 = .ok (.ifCond .eq 23, 3) := by decide +kernel
theorem dX10_keenest_27 : decode cX10_keenest 27 = .ok (.iload_n 1, 1) := by decide +kernel
theorem dX10_keenest_28 : decode cX10_keenest 28 = .ok (.iconst (-1), 1) := by decide +kernel
theorem dX10_keenest_29 : decode cX10_keenest 29 = .ok (.if_icmp .eq 16, 3) := by decide +kernel
theorem dX10_keenest_32 : decode cX10_keenest 32 = .ok (.aload_n 0, 1) := by decide +kernel
theorem dX10_keenest_33 : decode cX10_keenest 33 = .ok (.iload_n 2, 1) := by decide +kernel
theorem dX10_keenest_34 : decode cX10_keenest 34 = .ok (.invokevirtual 258, 3) := by decide +kernel
theorem dX10_keenest_37 : decode cX10_keenest 37 = .ok (.aload_n 0, 1) := by decide +kernel
theorem dX10_keenest_38 : decode cX10_keenest 38 = .ok (.iload_n 1, 1) := by decide +kernel
theorem dX10_keenest_39 : decode cX10_keenest 39 = .ok (.invokevirtual 258, 3) := by decide +kernel
theorem dX10_keenest_42 : decode cX10_keenest 42 = .ok (.if_icmp .le 5, 3) := by decide +kernel
theorem dX10_keenest_45 : decode cX10_keenest 45 = .ok (.iload_n 2, 1) := by decide +kernel
theorem dX10_keenest_46 : decode cX10_keenest 46 = .ok (.istore_n 1, 1) := by decide +kernel
theorem dX10_keenest_47 : decode cX10_keenest 47 = .ok (.iinc 2 1, 3) := by decide +kernel
theorem dX10_keenest_50 : decode cX10_keenest 50 = .ok (.goto (-41), 3) := by decide +kernel
theorem dX10_keenest_53 : decode cX10_keenest 53 = .ok (.iload_n 1, 1) := by decide +kernel
theorem dX10_keenest_54 : decode cX10_keenest 54 = .ok (.ireturn, 1) := by decide +kernel
def lp_X10_keenest_9 (μ1 : Mem) : Nat → Int32 → Int32 → Option (Int32 × Mem)
  | 0, _, _ => none
  | n + 1, x2, x3 => ix 3 704 (if (μ1 0 13 (Int32.toNatClampNeg 3)) ≤ x3 then (some (x2, μ1)) else ((f_X10_isHere μ1 x3).bind fun (q4 : Int32) => if q4 = 0 then (lp_X10_keenest_9 μ1 n x2 (x3 + 1)) else (if x2 = (-1) then (lp_X10_keenest_9 μ1 n x3 (x3 + 1)) else ((f_X10_risk μ1 x3).bind fun (q5 : Int32) => (f_X10_risk μ1 x2).bind fun (q6 : Int32) => if q5 ≤ q6 then (lp_X10_keenest_9 μ1 n x2 (x3 + 1)) else (lp_X10_keenest_9 μ1 n x3 (x3 + 1))))))
def f_X10_keenest (μ : Mem) : Option (Int32 × Mem) := nm (upm μ 0 12 0 0) fun (μ1 : Mem) => lp_X10_keenest_9 μ1 4096 (-1) 0
set_option maxHeartbeats 4000000 in
set_option maxRecDepth 100000 in
theorem c_X10_keenest (G : GG) (l : Launch) (μ : Mem) : CI G l yX10_keenest (.code yX10_keenest cX10_keenest 3 (some .int)) 3 [.ref (gad G 0 12)] μ (f_X10_keenest μ) := by
  refine CI.of (own := "SaturdayKeepModel") (L0 := [some (.ref (gad G 0 12)), none, none]) rfl rfl rfl (Nat.le_of_ble_eq_true rfl) (fun C hl hC => ?_)
  subst hl
  delta f_X10_keenest
  refine aw_aload_n (pc := 0) (i := 0) hC dX10_keenest_0 rfl rfl ?_
  refine aw_iconst (pc := 1) (v := 0) hC dX10_keenest_1 ic0 ?_
  refine aw_putIN (pc := 2) hC inX10 (v0 (j := 12) (by decide)) rfl rfl 0 (by decide) kw1314 rfl tyX10 tyX10_ok nmX10 rfl rfl (Nat.le_of_ble_eq_true rfl) rfl dX10_keenest_2 (fun μ1 => ?_)
  refine aw_iconst (pc := 5) (v := (-1)) hC dX10_keenest_5 icm1 ?_
  refine aw_istore_n (pc := 6) (i := 1) hC dX10_keenest_6 rfl rfl (by decide) ?_
  refine aw_iconst (pc := 7) (v := 0) hC dX10_keenest_7 ic0 ?_
  refine aw_istore_n (pc := 8) (i := 2) hC dX10_keenest_8 rfl rfl (by decide) ?_
  have hL9 : ∀ (n : Nat) (x2 : Int32) (x3 : Int32), AW G C (qI G C 0 0) 0 0 3 μ1 9 [some (.ref (gad G 0 12)), some (.int x2), some (.int x3)] [] (lp_X10_keenest_9 μ1 n x2 x3) := by
    intro n
    induction n with
    | zero => intro x2 x3; exact aw_none
    | succ n ih =>
      intro x2 x3
      rw [lp_X10_keenest_9]
      refine aw_iload_n (pc := 9) (i := 2) hC dX10_keenest_9 rfl rfl ?_
      refine aw_aload_n (pc := 10) (i := 0) hC dX10_keenest_10 rfl rfl ?_
      refine aw_get (pc := 11) hC inX10 (v0 (j := 12) (by decide)) rfl rfl 1 (by decide) kw1315 rfl rfl dX10_keenest_11 ?_
      refine aw_iconst (pc := 14) (v := 3) hC dX10_keenest_14 ic3 ?_
      refine aw_iaload (pc := 15) hC (v0 (j := 13) (by decide)) rfl dX10_keenest_15 ?_
      refine aw_icmp_ge (pc := 16) (tgt := 53) hC dX10_keenest_16 (by decide) (fun _ => ?_) (fun _ => ?_)
      · skip
        refine aw_iload_n (pc := 53) (i := 1) hC dX10_keenest_53 rfl rfl ?_
        exact aw_iret hC dX10_keenest_54
      · skip
        refine aw_aload_n (pc := 19) (i := 0) hC dX10_keenest_19 rfl rfl ?_
        refine aw_iload_n (pc := 20) (i := 2) hC dX10_keenest_20 rfl rfl ?_
        refine aw_callVR (pc := 21) (As := [.int x3]) hC mb_X10_isHere kw1558 (by decide) (c_X10_isHere G C.2.1   μ1 x3) (v0 (j := 12) (by decide)) rfl rfl rfl (Nat.le_of_ble_eq_true rfl) dX10_keenest_21 (fun q4 => ?_)
        refine aw_if_eq (pc := 24) (tgt := 47) hC dX10_keenest_24 (by decide) (fun _ => ?_) (fun _ => ?_)
        · skip
          refine aw_iinc (pc := 47) (v := x3 + 1) hC dX10_keenest_47 rfl (congrArg (HAdd.hAdd _) ic1) rfl (by decide) ?_
          refine aw_goto (pc := 50) (tgt := 9) hC dX10_keenest_50 (by decide) ?_
          exact ih x2 (x3 + 1)
        · skip
          refine aw_iload_n (pc := 27) (i := 1) hC dX10_keenest_27 rfl rfl ?_
          refine aw_iconst (pc := 28) (v := (-1)) hC dX10_keenest_28 icm1 ?_
          refine aw_icmp_eq (pc := 29) (tgt := 45) hC dX10_keenest_29 (by decide) (fun _ => ?_) (fun _ => ?_)
          · skip
            refine aw_iload_n (pc := 45) (i := 2) hC dX10_keenest_45 rfl rfl ?_
            refine aw_istore_n (pc := 46) (i := 1) hC dX10_keenest_46 rfl rfl (by decide) ?_
            refine aw_iinc (pc := 47) (v := x3 + 1) hC dX10_keenest_47 rfl (congrArg (HAdd.hAdd _) ic1) rfl (by decide) ?_
            refine aw_goto (pc := 50) (tgt := 9) hC dX10_keenest_50 (by decide) ?_
            exact ih x3 (x3 + 1)
          · skip
            refine aw_aload_n (pc := 32) (i := 0) hC dX10_keenest_32 rfl rfl ?_
            refine aw_iload_n (pc := 33) (i := 2) hC dX10_keenest_33 rfl rfl ?_
            refine aw_callVR (pc := 34) (As := [.int x3]) hC mb_X10_risk kw1543 (by decide) (c_X10_risk G C.2.1   μ1 x3) (v0 (j := 12) (by decide)) rfl rfl rfl (Nat.le_of_ble_eq_true rfl) dX10_keenest_34 (fun q5 => ?_)
            refine aw_aload_n (pc := 37) (i := 0) hC dX10_keenest_37 rfl rfl ?_
            refine aw_iload_n (pc := 38) (i := 1) hC dX10_keenest_38 rfl rfl ?_
            refine aw_callVR (pc := 39) (As := [.int x2]) hC mb_X10_risk kw1543 (by decide) (c_X10_risk G C.2.1   μ1 x2) (v0 (j := 12) (by decide)) rfl rfl rfl (Nat.le_of_ble_eq_true rfl) dX10_keenest_39 (fun q6 => ?_)
            refine aw_icmp_le (pc := 42) (tgt := 47) hC dX10_keenest_42 (by decide) (fun _ => ?_) (fun _ => ?_)
            · skip
              refine aw_iinc (pc := 47) (v := x3 + 1) hC dX10_keenest_47 rfl (congrArg (HAdd.hAdd _) ic1) rfl (by decide) ?_
              refine aw_goto (pc := 50) (tgt := 9) hC dX10_keenest_50 (by decide) ?_
              exact ih x2 (x3 + 1)
            · skip
              refine aw_iload_n (pc := 45) (i := 2) hC dX10_keenest_45 rfl rfl ?_
              refine aw_istore_n (pc := 46) (i := 1) hC dX10_keenest_46 rfl rfl (by decide) ?_
              refine aw_iinc (pc := 47) (v := x3 + 1) hC dX10_keenest_47 rfl (congrArg (HAdd.hAdd _) ic1) rfl (by decide) ?_
              refine aw_goto (pc := 50) (tgt := 9) hC dX10_keenest_50 (by decide) ?_
              exact ih x3 (x3 + 1)
  exact hL9 4096 (-1) 0
