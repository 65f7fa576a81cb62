theorem dX10_count_0 : decode cX10_count 0 = .ok (.aload_n 0, 1) := by decide +kernel
theorem dX10_count_1 : decode cX10_count 1 = .ok (.iconst 0, 1) := by decide +kernel
theorem dX10_count_2 : decode cX10_count 2 = .ok (.putfield 42, 3) := by decide +kernel
theorem dX10_count_5 : decode cX10_count 5 = .ok (.iload_n 1, 1) := by decide +kernel
theorem dX10_count_6 : decode cX10_count 6 = .ok (.ifCond .ne 10, 3) := by decide +kernel
theorem dX10_count_9 : decode cX10_count 9 = .ok (.aload_n 0, 1) := by decide +kernel
theorem dX10_count_10 : decode cX10_count 10 = .ok (.getfield 7, 3) := by decide +kernel
theorem dX10_count_13 : decode cX10_count 13 = .ok (.iconst 3, 1) := by decide +kernel
theorem dX10_count_14 : decode cX10_count 14 = .ok (.iaload, 1) := by decide +kernel
theorem dX10_count_15 : decode cX10_count 15 = .ok (.ireturn, 1) := by decide +kernel
theorem dX10_count_16 : decode cX10_count 16 = .ok (.iload_n 1, 1) := by decide +kernel
theorem dX10_count_17 : decode cX10_count 17 = .ok (.iconst 1, 1) := by decide +kernel
theorem dX10_count_18 : decode cX10_count 18 = .ok (.if_icmp .ne 10, 3) := by decide +kernel
theorem dX10_count_21 : decode cX10_count 21 = .ok (.aload_n 0, 1) := by decide +kernel
theorem dX10_count_22 : decode cX10_count 22 = .ok (.getfield 7, 3) := by decide +kernel
theorem dX10_count_25 : decode cX10_count 25 = .ok (.iconst 0, 1) := by decide +kernel
theorem dX10_count_26 : decode cX10_count 26 = .ok (.iaload, 1) := by decide +kernel
theorem dX10_count_27 : decode cX10_count 27 = .ok (.ireturn, 1) := by decide +kernel
theorem dX10_count_28 : decode cX10_count 28 = .ok (.iload_n 1, 1) := by decide +kernel
theorem dX10_count_29 : decode cX10_count 29 = .ok (.iconst 2, 1) := by decide +kernel
theorem dX10_count_30 : decode cX10_count 30 = .ok (.if_icmp .ne 10, 3) := by decide +kernel
theorem dX10_count_33 : decode cX10_count 33 = .ok (.aload_n 0, 1) := by decide +kernel
theorem dX10_count_34 : decode cX10_count 34 = .ok (.getfield 7, 3) := by decide +kernel
theorem dX10_count_37 : decode cX10_count 37 = .ok (.iconst 1, 1) := by decide +kernel
theorem dX10_count_38 : decode cX10_count 38 = .ok (.iaload, 1) := by decide +kernel
theorem dX10_count_39 : decode cX10_count 39 = .ok (.ireturn, 1) := by decide +kernel
theorem dX10_count_40 : decode cX10_count 40 = .ok (.iload_n 1, 1) := by decide +kernel
theorem dX10_count_41 : decode cX10_count 41 = .ok (.iconst 3, 1) := by decide +kernel
theorem dX10_count_42 : decode cX10_count 42 = .ok (.if_icmp .ne 11, 3) := by decide +kernel
theorem dX10_count_45 : decode cX10_count 45 = .ok (.aload_n 0, 1) := by decide +kernel
theorem dX10_count_46 : decode cX10_count 46 = .ok (.getfield 7, 3) := by decide +kernel
theorem dX10_count_49 : decode cX10_count 49 = .ok (.bipush 10, 2) := by decide +kernel
theorem dX10_count_51 : decode cX10_count 51 = .ok (.iaload, 1) := by decide +kernel
theorem dX10_count_52 : decode cX10_count 52 = .ok (.ireturn, 1) := by decide +kernel
theorem dX10_count_53 : decode cX10_count 53 = .ok (.iload_n 1, 1) := by decide +kernel
theorem dX10_count_54 : decode cX10_count 54 = .ok (.iconst 4, 1) := by decide +kernel
theorem dX10_count_55 : decode cX10_count 55 = .ok (.bipush 9, 2) := by decide +kernel
theorem dX10_count_57 : decode cX10_count 57 = .ok (.invokestatic 45, 3) := by decide +kernel
theorem dX10_count_60 : decode cX10_count 60 = .ok (.ifCond .eq 14, 3) := by decide +kernel
theorem dX10_count_63 : decode cX10_count 63 = .ok (.aload_n 0, 1) := by decide +kernel
theorem dX10_count_64 : decode cX10_count 64 = .ok (.getfield 7, 3) := by decide +kernel
theorem dX10_count_67 : decode cX10_count 67 = .ok (.iconst 4, 1) := by decide +kernel
theorem dX10_count_68 : decode cX10_count 68 = .ok (.iload_n 1, 1) := by decide +kernel
theorem dX10_count_69 : decode cX10_count 69 = .ok (.iadd, 1) := by decide +kernel
theorem dX10_count_70 : decode cX10_count 70 = .ok (.iconst 4, 1) := by decide +kernel
theorem dX10_count_71 : decode cX10_count 71 = .ok (.isub, 1) := by decide +kernel
theorem dX10_count_72 : decode cX10_count 72 = .ok (.iaload, 1) := by decide +kernel
theorem dX10_count_73 : decode cX10_count 73 = .ok (.ireturn, 1) := by decide +kernel
theorem dX10_count_74 : decode cX10_count 74 = .ok (.iload_n 1, 1) := by decide +kernel
theorem dX10_count_75 : decode cX10_count 75 = .ok (.bipush 10, 2) := by decide +kernel
theorem dX10_count_77 : decode cX10_count 77 = .ok (.if_icmp .ne 11, 3) := by decide +kernel
theorem dX10_count_80 : decode cX10_count 80 = .ok (.aload_n 0, 1) := by decide +kernel
theorem dX10_count_81 : decode cX10_count 81 = .ok (.getfield 7, 3) := by decide +kernel
theorem dX10_count_84 : decode cX10_count 84 = .ok (.bipush 11, 2) := by decide +kernel
theorem dX10_count_86 : decode cX10_count 86 = .ok (.iaload, 1) := by decide +kernel
theorem dX10_count_87 : decode cX10_count 87 = .ok (.ireturn, 1) := by decide +kernel
theorem dX10_count_88 : decode cX10_count 88 = .ok (.iload_n 1, 1) := by decide +kernel
theorem dX10_count_89 : decode cX10_count 89 = .ok (.bipush 11, 2) := by decide +kernel
theorem dX10_count_91 : decode cX10_count 91 = .ok (.if_icmp .ne 8, 3) := by decide +kernel
theorem dX10_count_94 : decode cX10_count 94 = .ok (.aload_n 0, 1) := by decide +kernel
theorem dX10_count_95 : decode cX10_count 95 = .ok (.invokevirtual 336, 3) := by decide +kernel
theorem dX10_count_98 : decode cX10_count 98 = .ok (.ireturn, 1) := by decide +kernel
theorem dX10_count_99 : decode cX10_count 99 = .ok (.iload_n 1, 1) := by decide +kernel
theorem dX10_count_100 : decode cX10_count 100 = .ok (.bipush 12, 2) := by decide +kernel
theorem dX10_count_102 : decode cX10_count 102 = .ok (.if_icmp .ne 8, 3) := by decide +kernel
theorem dX10_count_105 : decode cX10_count 105 = .ok (.aload_n 0, 1) := by decide +kernel
theorem dX10_count_106 : decode cX10_count 106 = .ok (.invokevirtual 344, 3) := by decide +kernel
theorem dX10_count_109 : decode cX10_count 109 = .ok (.ireturn, 1) := by decide +kernel
theorem dX10_count_110 : decode cX10_count 110 = .ok (.iload_n 1, 1) := by decide +kernel
theorem dX10_count_111 : decode cX10_count 111 = .ok (.bipush 13, 2) := by decide +kernel
theorem dX10_count_113 : decode cX10_count 113 = .ok (.if_icmp .ne 8, 3) := by decide +kernel
theorem dX10_count_116 : decode cX10_count 116 = .ok (.aload_n 0, 1) := by decide +kernel
theorem dX10_count_117 : decode cX10_count 117 = .ok (.invokevirtual 270, 3) := by decide +kernel
theorem dX10_count_120 : decode cX10_count 120 = .ok (.ireturn, 1) := by decide +kernel
theorem dX10_count_121 : decode cX10_count 121 = .ok (.iload_n 1, 1) := by decide +kernel
theorem dX10_count_122 : decode cX10_count 122 = .ok (.bipush 14, 2) := by decide +kernel
theorem dX10_count_124 : decode cX10_count 124 = .ok (.if_icmp .ne 11, 3) := by decide +kernel
theorem dX10_count_127 : decode cX10_count 127 = .ok (.aload_n 0, 1) := by decide +kernel
theorem dX10_count_128 : decode cX10_count 128 = .ok (.getfield 7, 3) := by decide +kernel
theorem dX10_count_131 : decode cX10_count 131 = .ok (.bipush 14, 2) := by decide +kernel
theorem dX10_count_133 : decode cX10_count 133 = .ok (.iaload, 1) := by decide +kernel
theorem dX10_count_134 : decode cX10_count 134 = .ok (.ireturn, 1) := by decide +kernel
theorem dX10_count_135 : decode cX10_count 135 = .ok (.iload_n 1, 1) := by decide +kernel
theorem dX10_count_136 : decode cX10_count 136 = .ok (.bipush 15, 2) := by decide +kernel
theorem dX10_count_138 : decode cX10_count 138 = .ok (.if_icmp .ne 10, 3) := by decide +kernel
theorem dX10_count_141 : decode cX10_count 141 = .ok (.aload_n 0, 1) := by decide +kernel
theorem dX10_count_142 : decode cX10_count 142 = .ok (.getfield 172, 3) := by decide +kernel
theorem dX10_count_145 : decode cX10_count 145 = .ok (.goto 4, 3) := by decide +kernel
theorem dX10_count_148 : decode cX10_count 148 = .ok (.iconst (-1), 1) := by decide +kernel
theorem dX10_count_149 : decode cX10_count 149 = .ok (.ireturn, 1) := by decide +kernel
def f_X10_count (μ : Mem) (a1 : Int32) : Option (Int32 × Mem) := nm (upm μ 0 12 0 0) fun (μ1 : Mem) => if a1 = 0 then (ix 3 704 (some ((μ1 0 13 (Int32.toNatClampNeg 3)), μ1))) else (if a1 = 1 then (ix 0 704 (some ((μ1 0 13 (Int32.toNatClampNeg 0)), μ1))) else (if a1 = 2 then (ix 1 704 (some ((μ1 0 13 (Int32.toNatClampNeg 1)), μ1))) else (if a1 = 3 then (ix 10 704 (some ((μ1 0 13 (Int32.toNatClampNeg 10)), μ1))) else ((f_X10_isIn a1 4 9).bind fun (q2 : Int32) => if q2 = 0 then (if a1 = 10 then (ix 11 704 (some ((μ1 0 13 (Int32.toNatClampNeg 11)), μ1))) else (if a1 = 11 then ((f_X10_holes μ1).bind fun (q3 : Int32) => some (q3, μ1)) else (if a1 = 12 then ((f_X10_hereOnes μ1).bind fun (q4 : Int32) => some (q4, μ1)) else (if a1 = 13 then ((f_X10_doubts μ1).bind fun (q5 : Int32) => some (q5, μ1)) else (if a1 = 14 then (ix 14 704 (some ((μ1 0 13 (Int32.toNatClampNeg 14)), μ1))) else (if a1 = 15 then (some ((μ1 0 12 6), μ1)) else (some ((-1), μ1)))))))) else (ix ((4 + a1) - 4) 704 (some ((μ1 0 13 ((4 + a1) - 4).toNatClampNeg), μ1)))))))
set_option maxHeartbeats 4000000 in
set_option maxRecDepth 100000 in
theorem c_X10_count (G : GG) (l : Launch) (μ : Mem) (a1 : Int32) : CI G l yX10_count (.code yX10_count cX10_count 2 (some .int)) 4 [.ref (gad G 0 12), .int a1] μ (f_X10_count μ a1) := by
  refine CI.of (own := "SaturdayKeepModel") (L0 := [some (.ref (gad G 0 12)), some (.int a1)]) rfl rfl rfl (Nat.le_of_ble_eq_true rfl) (fun C hl hC => ?_)
  subst hl
  delta f_X10_count
  refine aw_aload_n (pc := 0) (i := 0) hC dX10_count_0 rfl rfl ?_
  refine aw_iconst (pc := 1) (v := 0) hC dX10_count_1 ic0 ?_
  refine aw_putIN (pc := 2) hC inX10 (v0 (j := 12) (by decide)) rfl rfl 0 (by decide) kw1314 rfl tyX10 tyX10_ok nmX10 rfl rfl (Nat.le_of_ble_eq_true rfl) rfl dX10_count_2 (fun μ1 => ?_)
  refine aw_iload_n (pc := 5) (i := 1) hC dX10_count_5 rfl rfl ?_
  refine aw_if_ne (pc := 6) (tgt := 16) hC dX10_count_6 (by decide) (fun _ => ?_) (fun _ => ?_)
  · skip
    refine aw_aload_n (pc := 9) (i := 0) hC dX10_count_9 rfl rfl ?_
    refine aw_get (pc := 10) hC inX10 (v0 (j := 12) (by decide)) rfl rfl 1 (by decide) kw1315 rfl rfl dX10_count_10 ?_
    refine aw_iconst (pc := 13) (v := 3) hC dX10_count_13 ic3 ?_
    refine aw_iaload (pc := 14) hC (v0 (j := 13) (by decide)) rfl dX10_count_14 ?_
    exact aw_iret hC dX10_count_15
  · skip
    refine aw_iload_n (pc := 16) (i := 1) hC dX10_count_16 rfl rfl ?_
    refine aw_iconst (pc := 17) (v := 1) hC dX10_count_17 ic1 ?_
    refine aw_icmp_ne (pc := 18) (tgt := 28) hC dX10_count_18 (by decide) (fun _ => ?_) (fun _ => ?_)
    · skip
      refine aw_aload_n (pc := 21) (i := 0) hC dX10_count_21 rfl rfl ?_
      refine aw_get (pc := 22) hC inX10 (v0 (j := 12) (by decide)) rfl rfl 1 (by decide) kw1315 rfl rfl dX10_count_22 ?_
      refine aw_iconst (pc := 25) (v := 0) hC dX10_count_25 ic0 ?_
      refine aw_iaload (pc := 26) hC (v0 (j := 13) (by decide)) rfl dX10_count_26 ?_
      exact aw_iret hC dX10_count_27
    · skip
      refine aw_iload_n (pc := 28) (i := 1) hC dX10_count_28 rfl rfl ?_
      refine aw_iconst (pc := 29) (v := 2) hC dX10_count_29 ic2 ?_
      refine aw_icmp_ne (pc := 30) (tgt := 40) hC dX10_count_30 (by decide) (fun _ => ?_) (fun _ => ?_)
      · skip
        refine aw_aload_n (pc := 33) (i := 0) hC dX10_count_33 rfl rfl ?_
        refine aw_get (pc := 34) hC inX10 (v0 (j := 12) (by decide)) rfl rfl 1 (by decide) kw1315 rfl rfl dX10_count_34 ?_
        refine aw_iconst (pc := 37) (v := 1) hC dX10_count_37 ic1 ?_
        refine aw_iaload (pc := 38) hC (v0 (j := 13) (by decide)) rfl dX10_count_38 ?_
        exact aw_iret hC dX10_count_39
      · skip
        refine aw_iload_n (pc := 40) (i := 1) hC dX10_count_40 rfl rfl ?_
        refine aw_iconst (pc := 41) (v := 3) hC dX10_count_41 ic3 ?_
        refine aw_icmp_ne (pc := 42) (tgt := 53) hC dX10_count_42 (by decide) (fun _ => ?_) (fun _ => ?_)
        · skip
          refine aw_aload_n (pc := 45) (i := 0) hC dX10_count_45 rfl rfl ?_
          refine aw_get (pc := 46) hC inX10 (v0 (j := 12) (by decide)) rfl rfl 1 (by decide) kw1315 rfl rfl dX10_count_46 ?_
          refine aw_bipush (pc := 49) (v := 10) hC dX10_count_49 bc10 ?_
          refine aw_iaload (pc := 51) hC (v0 (j := 13) (by decide)) rfl dX10_count_51 ?_
          exact aw_iret hC dX10_count_52
        · skip
          refine aw_iload_n (pc := 53) (i := 1) hC dX10_count_53 rfl rfl ?_
          refine aw_iconst (pc := 54) (v := 4) hC dX10_count_54 ic4 ?_
          refine aw_bipush (pc := 55) (v := 9) hC dX10_count_55 bc9 ?_
          refine aw_callSR (pc := 57) (As := [.int a1, .int 4, .int 9]) hC ms_X10_isIn kw1394 (by decide) (c_X10_isIn G C.2.1   μ1 a1 4 9) rfl (Nat.le_of_ble_eq_true rfl) dX10_count_57 (fun q2 => ?_)
          refine aw_if_eq (pc := 60) (tgt := 74) hC dX10_count_60 (by decide) (fun _ => ?_) (fun _ => ?_)
          · skip
            refine aw_iload_n (pc := 74) (i := 1) hC dX10_count_74 rfl rfl ?_
            refine aw_bipush (pc := 75) (v := 10) hC dX10_count_75 bc10 ?_
            refine aw_icmp_ne (pc := 77) (tgt := 88) hC dX10_count_77 (by decide) (fun _ => ?_) (fun _ => ?_)
            · skip
              refine aw_aload_n (pc := 80) (i := 0) hC dX10_count_80 rfl rfl ?_
              refine aw_get (pc := 81) hC inX10 (v0 (j := 12) (by decide)) rfl rfl 1 (by decide) kw1315 rfl rfl dX10_count_81 ?_
              refine aw_bipush (pc := 84) (v := 11) hC dX10_count_84 bc11 ?_
              refine aw_iaload (pc := 86) hC (v0 (j := 13) (by decide)) rfl dX10_count_86 ?_
              exact aw_iret hC dX10_count_87
            · skip
              refine aw_iload_n (pc := 88) (i := 1) hC dX10_count_88 rfl rfl ?_
              refine aw_bipush (pc := 89) (v := 11) hC dX10_count_89 bc11 ?_
              refine aw_icmp_ne (pc := 91) (tgt := 99) hC dX10_count_91 (by decide) (fun _ => ?_) (fun _ => ?_)
              · skip
                refine aw_aload_n (pc := 94) (i := 0) hC dX10_count_94 rfl rfl ?_
                refine aw_callVR (pc := 95) (As := []) hC mb_X10_holes kw1850 (by decide) (c_X10_holes G C.2.1   μ1 ) (v0 (j := 12) (by decide)) rfl rfl rfl (Nat.le_of_ble_eq_true rfl) dX10_count_95 (fun q3 => ?_)
                exact aw_iret hC dX10_count_98
              · skip
                refine aw_iload_n (pc := 99) (i := 1) hC dX10_count_99 rfl rfl ?_
                refine aw_bipush (pc := 100) (v := 12) hC dX10_count_100 bc12 ?_
                refine aw_icmp_ne (pc := 102) (tgt := 110) hC dX10_count_102 (by decide) (fun _ => ?_) (fun _ => ?_)
                · skip
                  refine aw_aload_n (pc := 105) (i := 0) hC dX10_count_105 rfl rfl ?_
                  refine aw_callVR (pc := 106) (As := []) hC mb_X10_hereOnes kw1890 (by decide) (c_X10_hereOnes G C.2.1   μ1 ) (v0 (j := 12) (by decide)) rfl rfl rfl (Nat.le_of_ble_eq_true rfl) dX10_count_106 (fun q4 => ?_)
                  exact aw_iret hC dX10_count_109
                · skip
                  refine aw_iload_n (pc := 110) (i := 1) hC dX10_count_110 rfl rfl ?_
                  refine aw_bipush (pc := 111) (v := 13) hC dX10_count_111 bc13 ?_
                  refine aw_icmp_ne (pc := 113) (tgt := 121) hC dX10_count_113 (by decide) (fun _ => ?_) (fun _ => ?_)
                  · skip
                    refine aw_aload_n (pc := 116) (i := 0) hC dX10_count_116 rfl rfl ?_
                    refine aw_callVR (pc := 117) (As := []) hC mb_X10_doubts kw1562 (by decide) (c_X10_doubts G C.2.1   μ1 ) (v0 (j := 12) (by decide)) rfl rfl rfl (Nat.le_of_ble_eq_true rfl) dX10_count_117 (fun q5 => ?_)
                    exact aw_iret hC dX10_count_120
                  · skip
                    refine aw_iload_n (pc := 121) (i := 1) hC dX10_count_121 rfl rfl ?_
                    refine aw_bipush (pc := 122) (v := 14) hC dX10_count_122 bc14 ?_
                    refine aw_icmp_ne (pc := 124) (tgt := 135) hC dX10_count_124 (by decide) (fun _ => ?_) (fun _ => ?_)
                    · skip
                      refine aw_aload_n (pc := 127) (i := 0) hC dX10_count_127 rfl rfl ?_
                      refine aw_get (pc := 128) hC inX10 (v0 (j := 12) (by decide)) rfl rfl 1 (by decide) kw1315 rfl rfl dX10_count_128 ?_
                      refine aw_bipush (pc := 131) (v := 14) hC dX10_count_131 bc14 ?_
                      refine aw_iaload (pc := 133) hC (v0 (j := 13) (by decide)) rfl dX10_count_133 ?_
                      exact aw_iret hC dX10_count_134
                    · skip
                      refine aw_iload_n (pc := 135) (i := 1) hC dX10_count_135 rfl rfl ?_
                      refine aw_bipush (pc := 136) (v := 15) hC dX10_count_136 bc15 ?_
                      refine aw_icmp_ne (pc := 138) (tgt := 148) hC dX10_count_138 (by decide) (fun _ => ?_) (fun _ => ?_)
                      · skip
                        refine aw_aload_n (pc := 141) (i := 0) hC dX10_count_141 rfl rfl ?_
                        refine aw_get (pc := 142) hC inX10 (v0 (j := 12) (by decide)) rfl rfl 6 (by decide) kw1320 rfl rfl dX10_count_142 ?_
                        refine aw_goto (pc := 145) (tgt := 149) hC dX10_count_145 (by decide) ?_
                        exact aw_iret hC dX10_count_149
                      · skip
                        refine aw_iconst (pc := 148) (v := (-1)) hC dX10_count_148 icm1 ?_
                        exact aw_iret hC dX10_count_149
          · skip
            refine aw_aload_n (pc := 63) (i := 0) hC dX10_count_63 rfl rfl ?_
            refine aw_get (pc := 64) hC inX10 (v0 (j := 12) (by decide)) rfl rfl 1 (by decide) kw1315 rfl rfl dX10_count_64 ?_
            refine aw_iconst (pc := 67) (v := 4) hC dX10_count_67 ic4 ?_
            refine aw_iload_n (pc := 68) (i := 1) hC dX10_count_68 rfl rfl ?_
            refine aw_iadd (pc := 69) hC dX10_count_69 ?_
            refine aw_iconst (pc := 70) (v := 4) hC dX10_count_70 ic4 ?_
            refine aw_isub (pc := 71) hC dX10_count_71 ?_
            refine aw_iaload (pc := 72) hC (v0 (j := 13) (by decide)) rfl dX10_count_72 ?_
            exact aw_iret hC dX10_count_73
