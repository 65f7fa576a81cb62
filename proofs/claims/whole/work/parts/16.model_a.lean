theorem dX10_thrown_0 : decode cX10_thrown 0 = .ok (.aload_n 0, 1) := by decide +kernel
theorem dX10_thrown_1 : decode cX10_thrown 1 = .ok (.getfield 42, 3) := by decide +kernel
theorem dX10_thrown_4 : decode cX10_thrown 4 = .ok (.ireturn, 1) := by decide +kernel
def f_X10_thrown (μ : Mem) : Option (Int32) := some (μ 0 12 0)
set_option maxHeartbeats 4000000 in
set_option maxRecDepth 100000 in
theorem c_X10_thrown (G : GG) (l : Launch) (μ : Mem) : CR G l yX10_thrown (.code yX10_thrown cX10_thrown 1 (some .int)) 1 [.ref (gad G 0 12)] μ (f_X10_thrown μ) := by
  refine CR.of (own := "SaturdayKeepModel") (L0 := [some (.ref (gad G 0 12))]) rfl rfl rfl (Nat.le_of_ble_eq_true rfl) (fun C hl hC => ?_)
  subst hl
  delta f_X10_thrown
  refine aw_aload_n (pc := 0) (i := 0) hC dX10_thrown_0 rfl rfl ?_
  refine aw_get (pc := 1) hC inX10 (v0 (j := 12) (by decide)) rfl rfl 0 (by decide) kw1314 rfl rfl dX10_thrown_1 ?_
  exact aw_iretR hC dX10_thrown_4
theorem dX10_feed_0 : decode cX10_feed 0 = .ok (.aload_n 0, 1) := by decide +kernel
theorem dX10_feed_1 : decode cX10_feed 1 = .ok (.iconst 0, 1) := by decide +kernel
theorem dX10_feed_2 : decode cX10_feed 2 = .ok (.putfield 42, 3) := by decide +kernel
theorem dX10_feed_5 : decode cX10_feed 5 = .ok (.aload_n 0, 1) := by decide +kernel
theorem dX10_feed_6 : decode cX10_feed 6 = .ok (.getfield 61, 3) := by decide +kernel
theorem dX10_feed_9 : decode cX10_feed 9 = .ok (.bipush 20, 2) := by decide +kernel
theorem dX10_feed_11 : decode cX10_feed 11 = .ok (.iadd, 1) := by decide +kernel
theorem dX10_feed_12 : decode cX10_feed 12 = .ok (.sipush 400, 3) := by decide +kernel
theorem dX10_feed_15 : decode cX10_feed 15 = .ok (.if_icmp .le 5, 3) := by decide +kernel
theorem dX10_feed_18 : decode cX10_feed 18 = .ok (.iconst (-1), 1) := by decide +kernel
theorem dX10_feed_19 : decode cX10_feed 19 = .ok (.ireturn, 1) := by decide +kernel
theorem dX10_feed_20 : decode cX10_feed 20 = .ok (.iconst 0, 1) := by decide +kernel
theorem dX10_feed_21 : decode cX10_feed 21 = .ok (.istore 6, 2) := by decide +kernel
theorem dX10_feed_23 : decode cX10_feed 23 = .ok (.iload 6, 2) := by decide +kernel
theorem dX10_feed_25 : decode cX10_feed 25 = .ok (.bipush 20, 2) := by decide +kernel
theorem dX10_feed_27 : decode cX10_feed 27 = .ok (.if_icmp .ge 93, 3) := by decide +kernel
theorem dX10_feed_30 : decode cX10_feed 30 = .ok (.iload 6, 2) := by decide +kernel
theorem dX10_feed_32 : decode cX10_feed 32 = .ok (.iconst 4, 1) := by decide +kernel
theorem dX10_feed_33 : decode cX10_feed 33 = .ok (.if_icmp .ge 7, 3) := by decide +kernel
theorem dX10_feed_36 : decode cX10_feed 36 = .ok (.iload_n 1, 1) := by decide +kernel
theorem dX10_feed_37 : decode cX10_feed 37 = .ok (.goto 39, 3) := by decide +kernel
theorem dX10_feed_40 : decode cX10_feed 40 = .ok (.iload 6, 2) := by decide +kernel
theorem dX10_feed_42 : decode cX10_feed 42 = .ok (.bipush 8, 2) := by decide +kernel
theorem dX10_feed_44 : decode cX10_feed 44 = .ok (.if_icmp .ge 7, 3) := by decide +kernel
theorem dX10_feed_47 : decode cX10_feed 47 = .ok (.iload_n 2, 1) := by decide +kernel
theorem dX10_feed_48 : decode cX10_feed 48 = .ok (.goto 28, 3) := by decide +kernel
theorem dX10_feed_51 : decode cX10_feed 51 = .ok (.iload 6, 2) := by decide +kernel
theorem dX10_feed_53 : decode cX10_feed 53 = .ok (.bipush 12, 2) := by decide +kernel
theorem dX10_feed_55 : decode cX10_feed 55 = .ok (.if_icmp .ge 7, 3) := by decide +kernel
theorem dX10_feed_58 : decode cX10_feed 58 = .ok (.iload_n 3, 1) := by decide +kernel
theorem dX10_feed_59 : decode cX10_feed 59 = .ok (.goto 17, 3) := by decide +kernel
theorem dX10_feed_62 : decode cX10_feed 62 = .ok (.iload 6, 2) := by decide +kernel
theorem dX10_feed_64 : decode cX10_feed 64 = .ok (.bipush 16, 2) := by decide +kernel
theorem dX10_feed_66 : decode cX10_feed 66 = .ok (.if_icmp .ge 8, 3) := by decide +kernel
theorem dX10_feed_69 : decode cX10_feed 69 = .ok (.iload 4, 2) := by decide +kernel
theorem dX10_feed_71 : decode cX10_feed 71 = .ok (.goto 5, 3) := by decide +kernel
theorem dX10_feed_74 : decode cX10_feed 74 = .ok (.iload 5, 2) := by decide +kernel
theorem dX10_feed_76 : decode cX10_feed 76 = .ok (.istore 7, 2) := by decide +kernel
theorem dX10_feed_78 : decode cX10_feed 78 = .ok (.aload_n 0, 1) := by decide +kernel
theorem dX10_feed_79 : decode cX10_feed 79 = .ok (.getfield 22, 3) := by decide +kernel
theorem dX10_feed_82 : decode cX10_feed 82 = .ok (.aload_n 0, 1) := by decide +kernel
theorem dX10_feed_83 : decode cX10_feed 83 = .ok (.getfield 61, 3) := by decide +kernel
theorem dX10_feed_86 : decode cX10_feed 86 = .ok (.iload 7, 2) := by decide +kernel
theorem dX10_feed_88 : decode cX10_feed 88 = .ok (.bipush 24, 2) := by decide +kernel
theorem dX10_feed_90 : decode cX10_feed 90 = .ok (.bipush 8, 2) := by decide +kernel
theorem dX10_feed_92 : decode cX10_feed 92 = .ok (.iload 6, 2) := by decide +kernel
theorem dX10_feed_94 : decode cX10_feed 94 = .ok (.iconst 4, 1) := by decide +kernel
theorem dX10_feed_95 : decode cX10_feed 95 = .ok (.irem, 1) := by decide +kernel
theorem dX10_feed_96 : decode cX10_feed 96 = .ok (.imul, 1) := by decide +kernel
theorem dX10_feed_97 : decode cX10_feed 97 = .ok (.isub, 1) := by decide +kernel
theorem dX10_feed_98 : decode cX10_feed 98 = .ok (.iushr, 1) := by decide +kernel
theorem dX10_feed_99 : decode cX10_feed 99 = .ok (.sipush 255, 3) := by decide +kernel
theorem dX10_feed_102 : decode cX10_feed 102 = .ok (.iand, 1) := by decide +kernel
theorem dX10_feed_103 : decode cX10_feed 103 = .ok (.iastore, 1) := by decide +kernel
theorem dX10_feed_104 : decode cX10_feed 104 = .ok (.aload_n 0, 1) := by decide +kernel
theorem dX10_feed_105 : decode cX10_feed 105 = .ok (.dup, 1) := by decide +kernel
theorem dX10_feed_106 : decode cX10_feed 106 = .ok (.getfield 61, 3) := by decide +kernel
theorem dX10_feed_109 : decode cX10_feed 109 = .ok (.iconst 1, 1) := by decide +kernel
theorem dX10_feed_110 : decode cX10_feed 110 = .ok (.iadd, 1) := by decide +kernel
theorem dX10_feed_111 : decode cX10_feed 111 = .ok (.putfield 61, 3) := by decide +kernel
theorem dX10_feed_114 : decode cX10_feed 114 = .ok (.iinc 6 1, 3) := by decide +kernel
theorem dX10_feed_117 : decode cX10_feed 117 = .ok (.goto (-94), 3) := by decide +kernel
theorem dX10_feed_120 : decode cX10_feed 120 = .ok (.aload_n 0, 1) := by decide +kernel
theorem dX10_feed_121 : decode cX10_feed 121 = .ok (.getfield 61, 3) := by decide +kernel
theorem dX10_feed_124 : decode cX10_feed 124 = .ok (.ireturn, 1) := by decide +kernel
def lp_X10_feed_23 (a1 : Int32) (a2 : Int32) (a3 : Int32) (a4 : Int32) (a5 : Int32) : Nat → Int32 → Mem → Option (Int32 × Mem)
  | 0, _, _ => none
  | n + 1, x2, μ3 => if 20 ≤ x2 then (some ((μ3 0 12 8), μ3)) else (nm (fun (x4 : Int32) => ix (μ3 0 12 8) 400 (nm (upm μ3 0 17 (μ3 0 12 8).toNatClampNeg ((jushr x4 (24 - (8 * (jrem x2 4)))) &&& 255)) fun (μ5 : Mem) => nm (upm μ5 0 12 8 ((μ5 0 12 8) + 1)) fun (μ6 : Mem) => lp_X10_feed_23 a1 a2 a3 a4 a5 n (x2 + 1) μ6)) fun (J76 : Int32 → Option (Int32 × Mem)) => if 4 ≤ x2 then (if 8 ≤ x2 then (if 12 ≤ x2 then (if 16 ≤ x2 then (J76 a5) else (J76 a4)) else (J76 a3)) else (J76 a2)) else (J76 a1))
def f_X10_feed (μ : Mem) (a1 : Int32) (a2 : Int32) (a3 : Int32) (a4 : Int32) (a5 : Int32) : Option (Int32 × Mem) := nm (upm μ 0 12 0 0) fun (μ1 : Mem) => if ((μ1 0 12 8) + 20) ≤ 400 then (lp_X10_feed_23 a1 a2 a3 a4 a5 4096 0 μ1) else (some ((-1), μ1))
set_option maxHeartbeats 4000000 in
set_option maxRecDepth 100000 in
theorem c_X10_feed (G : GG) (l : Launch) (μ : Mem) (a1 : Int32) (a2 : Int32) (a3 : Int32) (a4 : Int32) (a5 : Int32) : CI G l yX10_feed (.code yX10_feed cX10_feed 8 (some .int)) 1 [.ref (gad G 0 12), .int a1, .int a2, .int a3, .int a4, .int a5] μ (f_X10_feed μ a1 a2 a3 a4 a5) := by
  refine CI.of (own := "SaturdayKeepModel") (L0 := [some (.ref (gad G 0 12)), some (.int a1), some (.int a2), some (.int a3), some (.int a4), some (.int a5), none, none]) rfl rfl rfl (Nat.le_of_ble_eq_true rfl) (fun C hl hC => ?_)
  subst hl
  delta f_X10_feed
  refine aw_aload_n (pc := 0) (i := 0) hC dX10_feed_0 rfl rfl ?_
  refine aw_iconst (pc := 1) (v := 0) hC dX10_feed_1 ic0 ?_
  refine aw_putIN (pc := 2) hC inX10 (v0 (j := 12) (by decide)) rfl rfl 0 (by decide) kw1314 rfl tyX10 tyX10_ok nmX10 rfl rfl (Nat.le_of_ble_eq_true rfl) rfl dX10_feed_2 (fun μ1 => ?_)
  refine aw_aload_n (pc := 5) (i := 0) hC dX10_feed_5 rfl rfl ?_
  refine aw_get (pc := 6) hC inX10 (v0 (j := 12) (by decide)) rfl rfl 8 (by decide) kw1322 rfl rfl dX10_feed_6 ?_
  refine aw_bipush (pc := 9) (v := 20) hC dX10_feed_9 bc20 ?_
  refine aw_iadd (pc := 11) hC dX10_feed_11 ?_
  refine aw_sipush (pc := 12) (v := 400) hC dX10_feed_12 sc400 ?_
  refine aw_icmp_le (pc := 15) (tgt := 20) hC dX10_feed_15 (by decide) (fun _ => ?_) (fun _ => ?_)
  · skip
    refine aw_iconst (pc := 20) (v := 0) hC dX10_feed_20 ic0 ?_
    refine aw_istore (pc := 21) hC dX10_feed_21 rfl (by decide) ?_
    have hL23 : ∀ (n : Nat) (x2 : Int32) (μ3 : Mem), AW G C (qI G C 0 0) 0 0 8 μ3 23 [some (.ref (gad G 0 12)), some (.int a1), some (.int a2), some (.int a3), some (.int a4), some (.int a5), some (.int x2), none] [] (lp_X10_feed_23 a1 a2 a3 a4 a5 n x2 μ3) := by
      intro n
      induction n with
      | zero => intro x2 μ3; exact aw_none
      | succ n ih =>
        intro x2 μ3
        rw [lp_X10_feed_23]
        refine aw_iload (pc := 23) hC dX10_feed_23 rfl ?_
        refine aw_bipush (pc := 25) (v := 20) hC dX10_feed_25 bc20 ?_
        refine aw_icmp_ge (pc := 27) (tgt := 120) hC dX10_feed_27 (by decide) (fun _ => ?_) (fun _ => ?_)
        · skip
          refine aw_aload_n (pc := 120) (i := 0) hC dX10_feed_120 rfl rfl ?_
          refine aw_get (pc := 121) hC inX10 (v0 (j := 12) (by decide)) rfl rfl 8 (by decide) kw1322 rfl rfl dX10_feed_121 ?_
          exact aw_iret hC dX10_feed_124
        · skip
          refine aw_iload (pc := 30) hC dX10_feed_30 rfl ?_
          refine aw_iconst (pc := 32) (v := 4) hC dX10_feed_32 ic4 ?_
          refine aw_nmJ (fun (J76 : Int32 → Option (Int32 × Mem)) => ∀ (x4 : Int32), AW G C (qI G C 0 0) 0 0 8 μ3 76 [some (.ref (gad G 0 12)), some (.int a1), some (.int a2), some (.int a3), some (.int a4), some (.int a5), some (.int x2), none] [.int x4] (J76 x4)) (fun x4 => ?_) (fun J76 hJ76 => ?_)
          · skip
            refine aw_istore (pc := 76) hC dX10_feed_76 rfl (by decide) ?_
            refine aw_aload_n (pc := 78) (i := 0) hC dX10_feed_78 rfl rfl ?_
            refine aw_get (pc := 79) hC inX10 (v0 (j := 12) (by decide)) rfl rfl 7 (by decide) kw1321 rfl rfl dX10_feed_79 ?_
            refine aw_aload_n (pc := 82) (i := 0) hC dX10_feed_82 rfl rfl ?_
            refine aw_get (pc := 83) hC inX10 (v0 (j := 12) (by decide)) rfl rfl 8 (by decide) kw1322 rfl rfl dX10_feed_83 ?_
            refine aw_iload (pc := 86) hC dX10_feed_86 rfl ?_
            refine aw_bipush (pc := 88) (v := 24) hC dX10_feed_88 bc24 ?_
            refine aw_bipush (pc := 90) (v := 8) hC dX10_feed_90 bc8 ?_
            refine aw_iload (pc := 92) hC dX10_feed_92 rfl ?_
            refine aw_iconst (pc := 94) (v := 4) hC dX10_feed_94 ic4 ?_
            refine aw_irem (pc := 95) hC dX10_feed_95 (by decide) ?_
            refine aw_imul (pc := 96) hC dX10_feed_96 ?_
            refine aw_isub (pc := 97) hC dX10_feed_97 ?_
            refine aw_iushr (pc := 98) hC dX10_feed_98 ?_
            refine aw_sipush (pc := 99) (v := 255) hC dX10_feed_99 sc255 ?_
            refine aw_iand (pc := 102) hC dX10_feed_102 ?_
            refine aw_iastoreN (pc := 103) hC (v0 (j := 17) (by decide)) (fun _ => rfl) dX10_feed_103 (fun μ5 => ?_)
            refine aw_aload_n (pc := 104) (i := 0) hC dX10_feed_104 rfl rfl ?_
            refine aw_dup (pc := 105) hC dX10_feed_105 rfl ?_
            refine aw_get (pc := 106) hC inX10 (v0 (j := 12) (by decide)) rfl rfl 8 (by decide) kw1322 rfl rfl dX10_feed_106 ?_
            refine aw_iconst (pc := 109) (v := 1) hC dX10_feed_109 ic1 ?_
            refine aw_iadd (pc := 110) hC dX10_feed_110 ?_
            refine aw_putIN (pc := 111) hC inX10 (v0 (j := 12) (by decide)) rfl rfl 8 (by decide) kw1322 rfl tyX10 tyX10_ok nmX10 rfl rfl (Nat.le_of_ble_eq_true rfl) rfl dX10_feed_111 (fun μ6 => ?_)
            refine aw_iinc (pc := 114) (v := x2 + 1) hC dX10_feed_114 rfl (congrArg (HAdd.hAdd _) ic1) rfl (by decide) ?_
            refine aw_goto (pc := 117) (tgt := 23) hC dX10_feed_117 (by decide) ?_
            exact aw_drop [7] (ih (x2 + 1) μ6)
          · skip
            refine aw_icmp_ge (pc := 33) (tgt := 40) hC dX10_feed_33 (by decide) (fun _ => ?_) (fun _ => ?_)
            · skip
              refine aw_iload (pc := 40) hC dX10_feed_40 rfl ?_
              refine aw_bipush (pc := 42) (v := 8) hC dX10_feed_42 bc8 ?_
              refine aw_icmp_ge (pc := 44) (tgt := 51) hC dX10_feed_44 (by decide) (fun _ => ?_) (fun _ => ?_)
              · skip
                refine aw_iload (pc := 51) hC dX10_feed_51 rfl ?_
                refine aw_bipush (pc := 53) (v := 12) hC dX10_feed_53 bc12 ?_
                refine aw_icmp_ge (pc := 55) (tgt := 62) hC dX10_feed_55 (by decide) (fun _ => ?_) (fun _ => ?_)
                · skip
                  refine aw_iload (pc := 62) hC dX10_feed_62 rfl ?_
                  refine aw_bipush (pc := 64) (v := 16) hC dX10_feed_64 bc16 ?_
                  refine aw_icmp_ge (pc := 66) (tgt := 74) hC dX10_feed_66 (by decide) (fun _ => ?_) (fun _ => ?_)
                  · skip
                    refine aw_iload (pc := 74) hC dX10_feed_74 rfl ?_
                    exact hJ76 a5
                  · skip
                    refine aw_iload (pc := 69) hC dX10_feed_69 rfl ?_
                    refine aw_goto (pc := 71) (tgt := 76) hC dX10_feed_71 (by decide) ?_
                    exact hJ76 a4
                · skip
                  refine aw_iload_n (pc := 58) (i := 3) hC dX10_feed_58 rfl rfl ?_
                  refine aw_goto (pc := 59) (tgt := 76) hC dX10_feed_59 (by decide) ?_
                  exact hJ76 a3
              · skip
                refine aw_iload_n (pc := 47) (i := 2) hC dX10_feed_47 rfl rfl ?_
                refine aw_goto (pc := 48) (tgt := 76) hC dX10_feed_48 (by decide) ?_
                exact hJ76 a2
            · skip
              refine aw_iload_n (pc := 36) (i := 1) hC dX10_feed_36 rfl rfl ?_
              refine aw_goto (pc := 37) (tgt := 76) hC dX10_feed_37 (by decide) ?_
              exact hJ76 a1
    exact hL23 4096 0 μ1
  · skip
    refine aw_iconst (pc := 18) (v := (-1)) hC dX10_feed_18 icm1 ?_
    exact aw_iret hC dX10_feed_19
theorem dX10_end_0 : decode cX10_end 0 = .ok (.aload_n 0, 1) := by decide +kernel
theorem dX10_end_1 : decode cX10_end 1 = .ok (.iconst 0, 1) := by decide +kernel
theorem dX10_end_2 : decode cX10_end 2 = .ok (.putfield 42, 3) := by decide +kernel
theorem dX10_end_5 : decode cX10_end 5 = .ok (.iload_n 1, 1) := by decide +kernel
theorem dX10_end_6 : decode cX10_end 6 = .ok (.iconst 0, 1) := by decide +kernel
theorem dX10_end_7 : decode cX10_end 7 = .ok (.aload_n 0, 1) := by decide +kernel
theorem dX10_end_8 : decode cX10_end 8 = .ok (.getfield 61, 3) := by decide +kernel
theorem dX10_end_11 : decode cX10_end 11 = .ok (.invokestatic 45, 3) := by decide +kernel
theorem dX10_end_14 : decode cX10_end 14 = .ok (.ifCond .ne 5, 3) := by decide +kernel
theorem dX10_end_17 : decode cX10_end 17 = .ok (.iconst 0, 1) := by decide +kernel
theorem dX10_end_18 : decode cX10_end 18 = .ok (.ireturn, 1) := by decide +kernel
theorem dX10_end_19 : decode cX10_end 19 = .ok (.aload_n 0, 1) := by decide +kernel
theorem dX10_end_20 : decode cX10_end 20 = .ok (.iload_n 1, 1) := by decide +kernel
theorem dX10_end_21 : decode cX10_end 21 = .ok (.putfield 61, 3) := by decide +kernel
theorem dX10_end_24 : decode cX10_end 24 = .ok (.iconst 1, 1) := by decide +kernel
theorem dX10_end_25 : decode cX10_end 25 = .ok (.ireturn, 1) := by decide +kernel
def f_X10_end (μ : Mem) (a1 : Int32) : Option (Int32 × Mem) := nm (upm μ 0 12 0 0) fun (μ1 : Mem) => (f_X10_isIn a1 0 (μ1 0 12 8)).bind fun (q2 : Int32) => if q2 = 0 then (some (0, μ1)) else (nm (upm μ1 0 12 8 a1) fun (μ3 : Mem) => some (1, μ3))
set_option maxHeartbeats 4000000 in
set_option maxRecDepth 100000 in
theorem c_X10_end (G : GG) (l : Launch) (μ : Mem) (a1 : Int32) : CI G l yX10_end (.code yX10_end cX10_end 2 (some .boolean)) 2 [.ref (gad G 0 12), .int a1] μ (f_X10_end μ a1) := by
  refine CI.of (own := "SaturdayKeepModel") (L0 := [some (.ref (gad G 0 12)), some (.int a1)]) rfl rfl rfl (Nat.le_of_ble_eq_true rfl) (fun C hl hC => ?_)
  subst hl
  delta f_X10_end
  refine aw_aload_n (pc := 0) (i := 0) hC dX10_end_0 rfl rfl ?_
  refine aw_iconst (pc := 1) (v := 0) hC dX10_end_1 ic0 ?_
  refine aw_putIN (pc := 2) hC inX10 (v0 (j := 12) (by decide)) rfl rfl 0 (by decide) kw1314 rfl tyX10 tyX10_ok nmX10 rfl rfl (Nat.le_of_ble_eq_true rfl) rfl dX10_end_2 (fun μ1 => ?_)
  refine aw_iload_n (pc := 5) (i := 1) hC dX10_end_5 rfl rfl ?_
  refine aw_iconst (pc := 6) (v := 0) hC dX10_end_6 ic0 ?_
  refine aw_aload_n (pc := 7) (i := 0) hC dX10_end_7 rfl rfl ?_
  refine aw_get (pc := 8) hC inX10 (v0 (j := 12) (by decide)) rfl rfl 8 (by decide) kw1322 rfl rfl dX10_end_8 ?_
  refine aw_callSR (pc := 11) (As := [.int a1, .int 0, .int (μ1 0 12 8)]) hC ms_X10_isIn kw1394 (by decide) (c_X10_isIn G C.2.1   μ1 a1 0 (μ1 0 12 8)) rfl (Nat.le_of_ble_eq_true rfl) dX10_end_11 (fun q2 => ?_)
  refine aw_if_ne (pc := 14) (tgt := 19) hC dX10_end_14 (by decide) (fun _ => ?_) (fun _ => ?_)
  · skip
    refine aw_iconst (pc := 17) (v := 0) hC dX10_end_17 ic0 ?_
    exact aw_zret0 hC dX10_end_18
  · skip
    refine aw_aload_n (pc := 19) (i := 0) hC dX10_end_19 rfl rfl ?_
    refine aw_iload_n (pc := 20) (i := 1) hC dX10_end_20 rfl rfl ?_
    refine aw_putIN (pc := 21) hC inX10 (v0 (j := 12) (by decide)) rfl rfl 8 (by decide) kw1322 rfl tyX10 tyX10_ok nmX10 rfl rfl (Nat.le_of_ble_eq_true rfl) rfl dX10_end_21 (fun μ3 => ?_)
    refine aw_iconst (pc := 24) (v := 1) hC dX10_end_24 ic1 ?_
    exact aw_zret1 hC dX10_end_25
theorem dX10_putsAside_0 : decode cX10_putsAside 0 = .ok (.iconst 0, 1) := by decide +kernel
theorem dX10_putsAside_1 : decode cX10_putsAside 1 = .ok (.istore_n 1, 1) := by decide +kernel
theorem dX10_putsAside_2 : decode cX10_putsAside 2 = .ok (.iload_n 1, 1) := by decide +kernel
theorem dX10_putsAside_3 : decode cX10_putsAside 3 = .ok (.sipush 304, 3) := by decide +kernel
theorem dX10_putsAside_6 : decode cX10_putsAside 6 = .ok (.if_icmp .ge 21, 3) := by decide +kernel
theorem dX10_putsAside_9 : decode cX10_putsAside 9 = .ok (.aload_n 0, 1) := by decide +kernel
theorem dX10_putsAside_10 : decode cX10_putsAside 10 = .ok (.getfield 16, 3) := by decide +kernel
theorem dX10_putsAside_13 : decode cX10_putsAside 13 = .ok (.iload_n 1, 1) := by decide +kernel
theorem dX10_putsAside_14 : decode cX10_putsAside 14 = .ok (.aload_n 0, 1) := by decide +kernel
theorem dX10_putsAside_15 : decode cX10_putsAside 15 = .ok (.getfield 7, 3) := by decide +kernel
theorem dX10_putsAside_18 : decode cX10_putsAside 18 = .ok (.iload_n 1, 1) := by decide +kernel
theorem dX10_putsAside_19 : decode cX10_putsAside 19 = .ok (.iaload, 1) := by decide +kernel
theorem dX10_putsAside_20 : decode cX10_putsAside 20 = .ok (.iastore, 1) := by decide +kernel
theorem dX10_putsAside_21 : decode cX10_putsAside 21 = .ok (.iinc 1 1, 3) := by decide +kernel
theorem dX10_putsAside_24 : decode cX10_putsAside 24 = .ok (.goto (-22), 3) := by decide +kernel
theorem dX10_putsAside_27 : decode cX10_putsAside 27 = .ok (.return_, 1) := by decide +kernel
def lp_X10_putsAside_2  : Nat → Int32 → Mem → Option (Mem)
  | 0, _, _ => none
  | n + 1, x1, μ2 => if 304 ≤ x1 then (some μ2) else (ix x1 704 (ix x1 304 (nm (upm μ2 0 15 x1.toNatClampNeg (μ2 0 13 x1.toNatClampNeg)) fun (μ3 : Mem) => lp_X10_putsAside_2 n (x1 + 1) μ3)))
def f_X10_putsAside (μ : Mem) : Option (Mem) := lp_X10_putsAside_2 4096 0 μ
set_option maxHeartbeats 4000000 in
set_option maxRecDepth 100000 in
theorem c_X10_putsAside (G : GG) (l : Launch) (μ : Mem) : CV G l yX10_putsAside (.code yX10_putsAside cX10_putsAside 2 none) 1 [.ref (gad G 0 12)] μ (f_X10_putsAside μ) := by
  refine CV.of (own := "SaturdayKeepModel") (L0 := [some (.ref (gad G 0 12)), none]) rfl rfl rfl (Nat.le_of_ble_eq_true rfl) (fun C hl hC => ?_)
  subst hl
  delta f_X10_putsAside
  refine aw_iconst (pc := 0) (v := 0) hC dX10_putsAside_0 ic0 ?_
  refine aw_istore_n (pc := 1) (i := 1) hC dX10_putsAside_1 rfl rfl (by decide) ?_
  have hL2 : ∀ (n : Nat) (x1 : Int32) (μ2 : Mem), AW G C (qV G C 0 0) 0 0 2 μ2 2 [some (.ref (gad G 0 12)), some (.int x1)] [] (lp_X10_putsAside_2 n x1 μ2) := by
    intro n
    induction n with
    | zero => intro x1 μ2; exact aw_none
    | succ n ih =>
      intro x1 μ2
      rw [lp_X10_putsAside_2]
      refine aw_iload_n (pc := 2) (i := 1) hC dX10_putsAside_2 rfl rfl ?_
      refine aw_sipush (pc := 3) (v := 304) hC dX10_putsAside_3 sc304 ?_
      refine aw_icmp_ge (pc := 6) (tgt := 27) hC dX10_putsAside_6 (by decide) (fun _ => ?_) (fun _ => ?_)
      · skip
        exact aw_vret hC dX10_putsAside_27
      · skip
        refine aw_aload_n (pc := 9) (i := 0) hC dX10_putsAside_9 rfl rfl ?_
        refine aw_get (pc := 10) hC inX10 (v0 (j := 12) (by decide)) rfl rfl 4 (by decide) kw1318 rfl rfl dX10_putsAside_10 ?_
        refine aw_iload_n (pc := 13) (i := 1) hC dX10_putsAside_13 rfl rfl ?_
        refine aw_aload_n (pc := 14) (i := 0) hC dX10_putsAside_14 rfl rfl ?_
        refine aw_get (pc := 15) hC inX10 (v0 (j := 12) (by decide)) rfl rfl 1 (by decide) kw1315 rfl rfl dX10_putsAside_15 ?_
        refine aw_iload_n (pc := 18) (i := 1) hC dX10_putsAside_18 rfl rfl ?_
        refine aw_iaload (pc := 19) hC (v0 (j := 13) (by decide)) rfl dX10_putsAside_19 ?_
        refine aw_iastoreN (pc := 20) hC (v0 (j := 15) (by decide)) (fun _ => rfl) dX10_putsAside_20 (fun μ3 => ?_)
        refine aw_iinc (pc := 21) (v := x1 + 1) hC dX10_putsAside_21 rfl (congrArg (HAdd.hAdd _) ic1) rfl (by decide) ?_
        refine aw_goto (pc := 24) (tgt := 2) hC dX10_putsAside_24 (by decide) ?_
        exact ih (x1 + 1) μ3
  exact hL2 4096 0 μ
theorem dX10_begins_0 : decode cX10_begins 0 = .ok (.aload_n 0, 1) := by decide +kernel
theorem dX10_begins_1 : decode cX10_begins 1 = .ok (.iconst (-1), 1) := by decide +kernel
theorem dX10_begins_2 : decode cX10_begins 2 = .ok (.putfield 25, 3) := by decide +kernel
theorem dX10_begins_5 : decode cX10_begins 5 = .ok (.aload_n 0, 1) := by decide +kernel
theorem dX10_begins_6 : decode cX10_begins 6 = .ok (.iconst (-1), 1) := by decide +kernel
theorem dX10_begins_7 : decode cX10_begins 7 = .ok (.putfield 64, 3) := by decide +kernel
theorem dX10_begins_10 : decode cX10_begins 10 = .ok (.aload_n 0, 1) := by decide +kernel
theorem dX10_begins_11 : decode cX10_begins 11 = .ok (.aload_n 0, 1) := by decide +kernel
theorem dX10_begins_12 : decode cX10_begins 12 = .ok (.getfield 61, 3) := by decide +kernel
theorem dX10_begins_15 : decode cX10_begins 15 = .ok (.putfield 70, 3) := by decide +kernel
theorem dX10_begins_18 : decode cX10_begins 18 = .ok (.aload_n 0, 1) := by decide +kernel
theorem dX10_begins_19 : decode cX10_begins 19 = .ok (.iconst 0, 1) := by decide +kernel
theorem dX10_begins_20 : decode cX10_begins 20 = .ok (.putfield 61, 3) := by decide +kernel
theorem dX10_begins_23 : decode cX10_begins 23 = .ok (.aload_n 0, 1) := by decide +kernel
theorem dX10_begins_24 : decode cX10_begins 24 = .ok (.iconst 0, 1) := by decide +kernel
theorem dX10_begins_25 : decode cX10_begins 25 = .ok (.putfield 67, 3) := by decide +kernel
theorem dX10_begins_28 : decode cX10_begins 28 = .ok (.aload_n 0, 1) := by decide +kernel
theorem dX10_begins_29 : decode cX10_begins 29 = .ok (.iconst 0, 1) := by decide +kernel
theorem dX10_begins_30 : decode cX10_begins 30 = .ok (.putfield 146, 3) := by decide +kernel
theorem dX10_begins_33 : decode cX10_begins 33 = .ok (.return_, 1) := by decide +kernel
def f_X10_begins (μ : Mem) : Option (Mem) := nm (upm μ 0 12 12 (-1)) fun (μ1 : Mem) => nm (upm μ1 0 12 9 (-1)) fun (μ2 : Mem) => nm (upm μ2 0 12 10 (μ2 0 12 8)) fun (μ3 : Mem) => nm (upm μ3 0 12 8 0) fun (μ4 : Mem) => nm (upm μ4 0 12 11 0) fun (μ5 : Mem) => nm (upm μ5 0 12 13 0) fun (μ6 : Mem) => some μ6
set_option maxHeartbeats 4000000 in
set_option maxRecDepth 100000 in
theorem c_X10_begins (G : GG) (l : Launch) (μ : Mem) : CV G l yX10_begins (.code yX10_begins cX10_begins 1 none) 1 [.ref (gad G 0 12)] μ (f_X10_begins μ) := by
  refine CV.of (own := "SaturdayKeepModel") (L0 := [some (.ref (gad G 0 12))]) rfl rfl rfl (Nat.le_of_ble_eq_true rfl) (fun C hl hC => ?_)
  subst hl
  delta f_X10_begins
  refine aw_aload_n (pc := 0) (i := 0) hC dX10_begins_0 rfl rfl ?_
  refine aw_iconst (pc := 1) (v := (-1)) hC dX10_begins_1 icm1 ?_
  refine aw_putIN (pc := 2) hC inX10 (v0 (j := 12) (by decide)) rfl rfl 12 (by decide) kw1326 rfl tyX10 tyX10_ok nmX10 rfl rfl (Nat.le_of_ble_eq_true rfl) rfl dX10_begins_2 (fun μ1 => ?_)
  refine aw_aload_n (pc := 5) (i := 0) hC dX10_begins_5 rfl rfl ?_
  refine aw_iconst (pc := 6) (v := (-1)) hC dX10_begins_6 icm1 ?_
  refine aw_putIN (pc := 7) hC inX10 (v0 (j := 12) (by decide)) rfl rfl 9 (by decide) kw1323 rfl tyX10 tyX10_ok nmX10 rfl rfl (Nat.le_of_ble_eq_true rfl) rfl dX10_begins_7 (fun μ2 => ?_)
  refine aw_aload_n (pc := 10) (i := 0) hC dX10_begins_10 rfl rfl ?_
  refine aw_aload_n (pc := 11) (i := 0) hC dX10_begins_11 rfl rfl ?_
  refine aw_get (pc := 12) hC inX10 (v0 (j := 12) (by decide)) rfl rfl 8 (by decide) kw1322 rfl rfl dX10_begins_12 ?_
  refine aw_putIN (pc := 15) hC inX10 (v0 (j := 12) (by decide)) rfl rfl 10 (by decide) kw1324 rfl tyX10 tyX10_ok nmX10 rfl rfl (Nat.le_of_ble_eq_true rfl) rfl dX10_begins_15 (fun μ3 => ?_)
  refine aw_aload_n (pc := 18) (i := 0) hC dX10_begins_18 rfl rfl ?_
  refine aw_iconst (pc := 19) (v := 0) hC dX10_begins_19 ic0 ?_
  refine aw_putIN (pc := 20) hC inX10 (v0 (j := 12) (by decide)) rfl rfl 8 (by decide) kw1322 rfl tyX10 tyX10_ok nmX10 rfl rfl (Nat.le_of_ble_eq_true rfl) rfl dX10_begins_20 (fun μ4 => ?_)
  refine aw_aload_n (pc := 23) (i := 0) hC dX10_begins_23 rfl rfl ?_
  refine aw_iconst (pc := 24) (v := 0) hC dX10_begins_24 ic0 ?_
  refine aw_putIN (pc := 25) hC inX10 (v0 (j := 12) (by decide)) rfl rfl 11 (by decide) kw1325 rfl tyX10 tyX10_ok nmX10 rfl rfl (Nat.le_of_ble_eq_true rfl) rfl dX10_begins_25 (fun μ5 => ?_)
  refine aw_aload_n (pc := 28) (i := 0) hC dX10_begins_28 rfl rfl ?_
  refine aw_iconst (pc := 29) (v := 0) hC dX10_begins_29 ic0 ?_
  refine aw_putIN (pc := 30) hC inX10 (v0 (j := 12) (by decide)) rfl rfl 13 (by decide) kw1327 rfl tyX10 tyX10_ok nmX10 rfl rfl (Nat.le_of_ble_eq_true rfl) rfl dX10_begins_30 (fun μ6 => ?_)
  exact aw_vret hC dX10_begins_33
theorem dX10_lawLine_0 : decode cX10_lawLine 0 = .ok (.aload_n 0, 1) := by decide +kernel
theorem dX10_lawLine_1 : decode cX10_lawLine 1 = .ok (.ldc 110, 2) := by decide +kernel
theorem dX10_lawLine_3 : decode cX10_lawLine 3 = .ok (.invokevirtual 96, 3) := by decide +kernel
theorem dX10_lawLine_6 : decode cX10_lawLine 6 = .ok (.istore_n 1, 1) := by decide +kernel
theorem dX10_lawLine_7 : decode cX10_lawLine 7 = .ok (.iload_n 1, 1) := by decide +kernel
theorem dX10_lawLine_8 : decode cX10_lawLine 8 = .ok (.ifCond .ne 21, 3) := by decide +kernel
theorem dX10_lawLine_11 : decode cX10_lawLine 11 = .ok (.aload_n 0, 1) := by decide +kernel
theorem dX10_lawLine_12 : decode cX10_lawLine 12 = .ok (.ldc 219, 2) := by decide +kernel
theorem dX10_lawLine_14 : decode cX10_lawLine 14 = .ok (.invokevirtual 96, 3) := by decide +kernel
theorem dX10_lawLine_17 : decode cX10_lawLine 17 = .ok (.ifCond .ne 12, 3) := by decide +kernel
theorem dX10_lawLine_20 : decode cX10_lawLine 20 = .ok (.aload_n 0, 1) := by decide +kernel
theorem dX10_lawLine_21 : decode cX10_lawLine 21 = .ok (.aload_n 0, 1) := by decide +kernel
theorem dX10_lawLine_22 : decode cX10_lawLine 22 = .ok (.getfield 67, 3) := by decide +kernel
theorem dX10_lawLine_25 : decode cX10_lawLine 25 = .ok (.invokevirtual 92, 3) := by decide +kernel
theorem dX10_lawLine_28 : decode cX10_lawLine 28 = .ok (.return_, 1) := by decide +kernel
theorem dX10_lawLine_29 : decode cX10_lawLine 29 = .ok (.aload_n 0, 1) := by decide +kernel
theorem dX10_lawLine_30 : decode cX10_lawLine 30 = .ok (.iconst 0, 1) := by decide +kernel
theorem dX10_lawLine_31 : decode cX10_lawLine 31 = .ok (.bipush 30, 2) := by decide +kernel
theorem dX10_lawLine_33 : decode cX10_lawLine 33 = .ok (.invokevirtual 100, 3) := by decide +kernel
theorem dX10_lawLine_36 : decode cX10_lawLine 36 = .ok (.istore_n 2, 1) := by decide +kernel
theorem dX10_lawLine_37 : decode cX10_lawLine 37 = .ok (.aload_n 0, 1) := by decide +kernel
theorem dX10_lawLine_38 : decode cX10_lawLine 38 = .ok (.getfield 25, 3) := by decide +kernel
theorem dX10_lawLine_41 : decode cX10_lawLine 41 = .ok (.iconst (-1), 1) := by decide +kernel
theorem dX10_lawLine_42 : decode cX10_lawLine 42 = .ok (.if_icmp .eq 4, 3) := by decide +kernel
theorem dX10_lawLine_45 : decode cX10_lawLine 45 = .ok (.return_, 1) := by decide +kernel
theorem dX10_lawLine_46 : decode cX10_lawLine 46 = .ok (.aload_n 0, 1) := by decide +kernel
theorem dX10_lawLine_47 : decode cX10_lawLine 47 = .ok (.ldc 221, 2) := by decide +kernel
theorem dX10_lawLine_49 : decode cX10_lawLine 49 = .ok (.invokevirtual 96, 3) := by decide +kernel
theorem dX10_lawLine_52 : decode cX10_lawLine 52 = .ok (.ifCond .eq 10, 3) := by decide +kernel
theorem dX10_lawLine_55 : decode cX10_lawLine 55 = .ok (.aload_n 0, 1) := by decide +kernel
theorem dX10_lawLine_56 : decode cX10_lawLine 56 = .ok (.invokevirtual 209, 3) := by decide +kernel
theorem dX10_lawLine_59 : decode cX10_lawLine 59 = .ok (.ifCond .eq 7, 3) := by decide +kernel
theorem dX10_lawLine_62 : decode cX10_lawLine 62 = .ok (.iconst 1, 1) := by decide +kernel
theorem dX10_lawLine_63 : decode cX10_lawLine 63 = .ok (.goto 4, 3) := by decide +kernel
theorem dX10_lawLine_66 : decode cX10_lawLine 66 = .ok (.iconst 0, 1) := by decide +kernel
theorem dX10_lawLine_67 : decode cX10_lawLine 67 = .ok (.istore_n 3, 1) := by decide +kernel
theorem dX10_lawLine_68 : decode cX10_lawLine 68 = .ok (.aload_n 0, 1) := by decide +kernel
theorem dX10_lawLine_69 : decode cX10_lawLine 69 = .ok (.getfield 25, 3) := by decide +kernel
theorem dX10_lawLine_72 : decode cX10_lawLine 72 = .ok (.iconst (-1), 1) := by decide +kernel
theorem dX10_lawLine_73 : decode cX10_lawLine 73 = .ok (.if_icmp .ne 26, 3) := by decide +kernel
theorem dX10_lawLine_76 : decode cX10_lawLine 76 = .ok (.iload_n 3, 1) := by decide +kernel
theorem dX10_lawLine_77 : decode cX10_lawLine 77 = .ok (.ifCond .eq 22, 3) := by decide +kernel
theorem dX10_lawLine_80 : decode cX10_lawLine 80 = .ok (.aload_n 0, 1) := by decide +kernel
theorem dX10_lawLine_81 : decode cX10_lawLine 81 = .ok (.dup, 1) := by decide +kernel
theorem dX10_lawLine_82 : decode cX10_lawLine 82 = .ok (.getfield 223, 3) := by decide +kernel
theorem dX10_lawLine_85 : decode cX10_lawLine 85 = .ok (.iload_n 1, 1) := by decide +kernel
theorem dX10_lawLine_86 : decode cX10_lawLine 86 = .ok (.ifCond .eq 7, 3) := by decide +kernel
theorem dX10_lawLine_89 : decode cX10_lawLine 89 = .ok (.iload_n 2, 1) := by decide +kernel
theorem dX10_lawLine_90 : decode cX10_lawLine 90 = .ok (.goto 5, 3) := by decide +kernel
theorem dX10_lawLine_93 : decode cX10_lawLine 93 = .ok (.iload_n 2, 1) := by decide +kernel
theorem dX10_lawLine_94 : decode cX10_lawLine 94 = .ok (.ineg, 1) := by decide +kernel
theorem dX10_lawLine_95 : decode cX10_lawLine 95 = .ok (.iadd, 1) := by decide +kernel
theorem dX10_lawLine_96 : decode cX10_lawLine 96 = .ok (.putfield 223, 3) := by decide +kernel
theorem dX10_lawLine_99 : decode cX10_lawLine 99 = .ok (.return_, 1) := by decide +kernel
def f_X10_lawLine (μ : Mem) : Option (Mem) := (f_X10_has 44 μ).bind fun (q1 : Int32 × Mem) => nm (fun (μ2 : Mem) => (f_X10_figures μ2 0 30).bind fun (q3 : Int32 × Mem) => if (q3.2 0 12 12) = (-1) then ((f_X10_has 46 q3.2).bind fun (q4 : Int32 × Mem) => nm (fun (x5 : Int32) (μ6 : Mem) => if (μ6 0 12 12) = (-1) then (if x5 = 0 then (some μ6) else (nm (fun (x7 : Int32) => nm (upm μ6 0 12 17 ((μ6 0 12 17) + x7)) fun (μ8 : Mem) => some μ8) fun (J95 : Int32 → Option (Mem)) => if q1.1 = 0 then (J95 (0 - q3.1)) else (J95 q3.1))) else (some μ6)) fun (J67 : Int32 → Mem → Option (Mem)) => nm (fun (μ9 : Mem) => J67 1 μ9) fun (J62 : Mem → Option (Mem)) => if q4.1 = 0 then (J62 q4.2) else ((f_X10_some (f_X10_atom 10) q4.2).bind fun (q10 : Int32 × Mem) => if q10.1 = 0 then (J67 0 q10.2) else (J62 q10.2))) else (some q3.2)) fun (J29 : Mem → Option (Mem)) => if q1.1 = 0 then ((f_X10_has 45 q1.2).bind fun (q11 : Int32 × Mem) => if q11.1 = 0 then ((f_X10_wrong q11.2 (q11.2 0 12 11)).bind fun (q12 : Mem) => some q12) else (J29 q11.2)) else (J29 q1.2)
set_option maxHeartbeats 4000000 in
set_option maxRecDepth 100000 in
theorem c_X10_lawLine (G : GG) (l : Launch) (μ : Mem) : CV G l yX10_lawLine (.code yX10_lawLine cX10_lawLine 4 none) 55 [.ref (gad G 0 12)] μ (f_X10_lawLine μ) := by
  refine CV.of (own := "SaturdayKeepModel") (L0 := [some (.ref (gad G 0 12)), none, none, none]) rfl rfl rfl (Nat.le_of_ble_eq_true rfl) (fun C hl hC => ?_)
  subst hl
  delta f_X10_lawLine
  refine aw_aload_n (pc := 0) (i := 0) hC dX10_lawLine_0 rfl rfl ?_
  refine aw_ldcS (pc := 1) (i := 44) hC rfl dX10_lawLine_1 ?_
  refine aw_callVI (pc := 3) (As := [.ref (gsK G 44)]) hC mb_X10_has kw1430 (by omega) (c_X10_has G C.2.1 44 (by decide) μ ) (v0 (j := 12) (by decide)) rfl rfl rfl (Nat.le_of_ble_eq_true rfl) dX10_lawLine_3 (fun q1 => ?_)
  refine aw_istore_n (pc := 6) (i := 1) hC dX10_lawLine_6 rfl rfl (by decide) ?_
  refine aw_iload_n (pc := 7) (i := 1) hC dX10_lawLine_7 rfl rfl ?_
  refine aw_nmJ (fun (J29 : Mem → Option (Mem)) => ∀ (μ2 : Mem), AW G C (qV G C 0 0) 0 0 4 μ2 29 [some (.ref (gad G 0 12)), some (.int q1.1), none, none] [] (J29 μ2)) (fun μ2 => ?_) (fun J29 hJ29 => ?_)
  · skip
    refine aw_aload_n (pc := 29) (i := 0) hC dX10_lawLine_29 rfl rfl ?_
    refine aw_iconst (pc := 30) (v := 0) hC dX10_lawLine_30 ic0 ?_
    refine aw_bipush (pc := 31) (v := 30) hC dX10_lawLine_31 bc30 ?_
    refine aw_callVI (pc := 33) (As := [.int 0, .int 30]) hC mb_X10_figures kw1437 (by omega) (c_X10_figures G C.2.1   μ2 0 30) (v0 (j := 12) (by decide)) rfl rfl rfl (Nat.le_of_ble_eq_true rfl) dX10_lawLine_33 (fun q3 => ?_)
    refine aw_istore_n (pc := 36) (i := 2) hC dX10_lawLine_36 rfl rfl (by decide) ?_
    refine aw_aload_n (pc := 37) (i := 0) hC dX10_lawLine_37 rfl rfl ?_
    refine aw_get (pc := 38) hC inX10 (v0 (j := 12) (by decide)) rfl rfl 12 (by decide) kw1326 rfl rfl dX10_lawLine_38 ?_
    refine aw_iconst (pc := 41) (v := (-1)) hC dX10_lawLine_41 icm1 ?_
    refine aw_icmp_eq (pc := 42) (tgt := 46) hC dX10_lawLine_42 (by decide) (fun _ => ?_) (fun _ => ?_)
    · skip
      refine aw_aload_n (pc := 46) (i := 0) hC dX10_lawLine_46 rfl rfl ?_
      refine aw_ldcS (pc := 47) (i := 46) hC rfl dX10_lawLine_47 ?_
      refine aw_callVI (pc := 49) (As := [.ref (gsK G 46)]) hC mb_X10_has kw1430 (by omega) (c_X10_has G C.2.1 46 (by decide) q3.2 ) (v0 (j := 12) (by decide)) rfl rfl rfl (Nat.le_of_ble_eq_true rfl) dX10_lawLine_49 (fun q4 => ?_)
      refine aw_nmJ (fun (J67 : Int32 → Mem → Option (Mem)) => ∀ (x5 : Int32) (μ6 : Mem), AW G C (qV G C 0 0) 0 0 4 μ6 67 [some (.ref (gad G 0 12)), some (.int q1.1), some (.int q3.1), none] [.int x5] (J67 x5 μ6)) (fun x5 μ6 => ?_) (fun J67 hJ67 => ?_)
      · skip
        refine aw_istore_n (pc := 67) (i := 3) hC dX10_lawLine_67 rfl rfl (by decide) ?_
        refine aw_aload_n (pc := 68) (i := 0) hC dX10_lawLine_68 rfl rfl ?_
        refine aw_get (pc := 69) hC inX10 (v0 (j := 12) (by decide)) rfl rfl 12 (by decide) kw1326 rfl rfl dX10_lawLine_69 ?_
        refine aw_iconst (pc := 72) (v := (-1)) hC dX10_lawLine_72 icm1 ?_
        refine aw_icmp_ne (pc := 73) (tgt := 99) hC dX10_lawLine_73 (by decide) (fun _ => ?_) (fun _ => ?_)
        · skip
          refine aw_iload_n (pc := 76) (i := 3) hC dX10_lawLine_76 rfl rfl ?_
          refine aw_if_eq (pc := 77) (tgt := 99) hC dX10_lawLine_77 (by decide) (fun _ => ?_) (fun _ => ?_)
          · skip
            exact aw_vret hC dX10_lawLine_99
          · skip
            refine aw_aload_n (pc := 80) (i := 0) hC dX10_lawLine_80 rfl rfl ?_
            refine aw_dup (pc := 81) hC dX10_lawLine_81 rfl ?_
            refine aw_get (pc := 82) hC inX10 (v0 (j := 12) (by decide)) rfl rfl 17 (by decide) kw1331 rfl rfl dX10_lawLine_82 ?_
            refine aw_iload_n (pc := 85) (i := 1) hC dX10_lawLine_85 rfl rfl ?_
            refine aw_nmJ (fun (J95 : Int32 → Option (Mem)) => ∀ (x7 : Int32), AW G C (qV G C 0 0) 0 0 4 μ6 95 [none, none, none, none] [.int x7, .int (μ6 0 12 17), .ref (gad G 0 12)] (J95 x7)) (fun x7 => ?_) (fun J95 hJ95 => ?_)
            · skip
              refine aw_iadd (pc := 95) hC dX10_lawLine_95 ?_
              refine aw_putIN (pc := 96) hC inX10 (v0 (j := 12) (by decide)) rfl rfl 17 (by decide) kw1331 rfl tyX10 tyX10_ok nmX10 rfl rfl (Nat.le_of_ble_eq_true rfl) rfl dX10_lawLine_96 (fun μ8 => ?_)
              exact aw_vret hC dX10_lawLine_99
            · skip
              refine aw_if_eq (pc := 86) (tgt := 93) hC dX10_lawLine_86 (by decide) (fun _ => ?_) (fun _ => ?_)
              · skip
                refine aw_iload_n (pc := 93) (i := 2) hC dX10_lawLine_93 rfl rfl ?_
                refine aw_ineg (pc := 94) hC dX10_lawLine_94 ?_
                exact aw_drop [0, 1, 2, 3] (hJ95 (0 - q3.1))
              · skip
                refine aw_iload_n (pc := 89) (i := 2) hC dX10_lawLine_89 rfl rfl ?_
                refine aw_goto (pc := 90) (tgt := 95) hC dX10_lawLine_90 (by decide) ?_
                exact aw_drop [0, 1, 2, 3] (hJ95 q3.1)
        · skip
          exact aw_vret hC dX10_lawLine_99
      · skip
        refine aw_nmJ (fun (J62 : Mem → Option (Mem)) => ∀ (μ9 : Mem), AW G C (qV G C 0 0) 0 0 4 μ9 62 [some (.ref (gad G 0 12)), some (.int q1.1), some (.int q3.1), none] [] (J62 μ9)) (fun μ9 => ?_) (fun J62 hJ62 => ?_)
        · skip
          refine aw_iconst (pc := 62) (v := 1) hC dX10_lawLine_62 ic1 ?_
          refine aw_goto (pc := 63) (tgt := 67) hC dX10_lawLine_63 (by decide) ?_
          exact hJ67 1 μ9
        · skip
          refine aw_if_eq (pc := 52) (tgt := 62) hC dX10_lawLine_52 (by decide) (fun _ => ?_) (fun _ => ?_)
          · skip
            exact hJ62 q4.2
          · skip
            refine aw_aload_n (pc := 55) (i := 0) hC dX10_lawLine_55 rfl rfl ?_
            refine aw_callVI (pc := 56) (As := []) hC mb_X10_some kw1446 (by omega) (c_X10_some G C.2.1 52 (by decide) (f_X10_atom 10) (c_X10_atom G C.2.1 10) q4.2) (v0 (j := 12) (by decide)) rfl rfl rfl (Nat.le_of_ble_eq_true rfl) dX10_lawLine_56 (fun q10 => ?_)
            refine aw_if_eq (pc := 59) (tgt := 66) hC dX10_lawLine_59 (by decide) (fun _ => ?_) (fun _ => ?_)
            · skip
              refine aw_iconst (pc := 66) (v := 0) hC dX10_lawLine_66 ic0 ?_
              exact hJ67 0 q10.2
            · skip
              exact hJ62 q10.2
    · skip
      exact aw_vret hC dX10_lawLine_45
  · skip
    refine aw_if_ne (pc := 8) (tgt := 29) hC dX10_lawLine_8 (by decide) (fun _ => ?_) (fun _ => ?_)
    · skip
      refine aw_aload_n (pc := 11) (i := 0) hC dX10_lawLine_11 rfl rfl ?_
      refine aw_ldcS (pc := 12) (i := 45) hC rfl dX10_lawLine_12 ?_
      refine aw_callVI (pc := 14) (As := [.ref (gsK G 45)]) hC mb_X10_has kw1430 (by omega) (c_X10_has G C.2.1 45 (by decide) q1.2 ) (v0 (j := 12) (by decide)) rfl rfl rfl (Nat.le_of_ble_eq_true rfl) dX10_lawLine_14 (fun q11 => ?_)
      refine aw_if_ne (pc := 17) (tgt := 29) hC dX10_lawLine_17 (by decide) (fun _ => ?_) (fun _ => ?_)
      · skip
        refine aw_aload_n (pc := 20) (i := 0) hC dX10_lawLine_20 rfl rfl ?_
        refine aw_aload_n (pc := 21) (i := 0) hC dX10_lawLine_21 rfl rfl ?_
        refine aw_get (pc := 22) hC inX10 (v0 (j := 12) (by decide)) rfl rfl 11 (by decide) kw1325 rfl rfl dX10_lawLine_22 ?_
        refine aw_callVV (pc := 25) (As := [.int (q11.2 0 12 11)]) hC mb_X10_wrong kw1421 (by omega) (c_X10_wrong G C.2.1   q11.2 (q11.2 0 12 11)) (v0 (j := 12) (by decide)) rfl rfl rfl (Nat.le_of_ble_eq_true rfl) dX10_lawLine_25 (fun q12 => ?_)
        exact aw_vret hC dX10_lawLine_28
      · skip
        exact hJ29 q11.2
    · skip
      exact hJ29 q1.2
theorem dX10_guestLine_0 : decode cX10_guestLine 0 = .ok (.aload_n 0, 1) := by decide +kernel
theorem dX10_guestLine_1 : decode cX10_guestLine 1 = .ok (.getfield 7, 3) := by decide +kernel
theorem dX10_guestLine_4 : decode cX10_guestLine 4 = .ok (.iconst 3, 1) := by decide +kernel
theorem dX10_guestLine_5 : decode cX10_guestLine 5 = .ok (.iaload, 1) := by decide +kernel
theorem dX10_guestLine_6 : decode cX10_guestLine 6 = .ok (.bipush 8, 2) := by decide +kernel
theorem dX10_guestLine_8 : decode cX10_guestLine 8 = .ok (.if_icmp .ne 8, 3) := by decide +kernel
theorem dX10_guestLine_11 : decode cX10_guestLine 11 = .ok (.aload_n 0, 1) := by decide +kernel
theorem dX10_guestLine_12 : decode cX10_guestLine 12 = .ok (.iload_n 1, 1) := by decide +kernel
theorem dX10_guestLine_13 : decode cX10_guestLine 13 = .ok (.invokevirtual 92, 3) := by decide +kernel
theorem dX10_guestLine_16 : decode cX10_guestLine 16 = .ok (.aload_n 0, 1) := by decide +kernel
theorem dX10_guestLine_17 : decode cX10_guestLine 17 = .ok (.ldc 103, 2) := by decide +kernel
theorem dX10_guestLine_19 : decode cX10_guestLine 19 = .ok (.iconst 0, 1) := by decide +kernel
theorem dX10_guestLine_20 : decode cX10_guestLine 20 = .ok (.bipush 10, 2) := by decide +kernel
theorem dX10_guestLine_22 : decode cX10_guestLine 22 = .ok (.invokevirtual 105, 3) := by decide +kernel
theorem dX10_guestLine_25 : decode cX10_guestLine 25 = .ok (.istore_n 2, 1) := by decide +kernel
theorem dX10_guestLine_26 : decode cX10_guestLine 26 = .ok (.aload_n 0, 1) := by decide +kernel
theorem dX10_guestLine_27 : decode cX10_guestLine 27 = .ok (.ldc 109, 2) := by decide +kernel
theorem dX10_guestLine_29 : decode cX10_guestLine 29 = .ok (.iconst 0, 1) := by decide +kernel
theorem dX10_guestLine_30 : decode cX10_guestLine 30 = .ok (.bipush 7, 2) := by decide +kernel
theorem dX10_guestLine_32 : decode cX10_guestLine 32 = .ok (.invokevirtual 105, 3) := by decide +kernel
theorem dX10_guestLine_35 : decode cX10_guestLine 35 = .ok (.istore_n 3, 1) := by decide +kernel
theorem dX10_guestLine_36 : decode cX10_guestLine 36 = .ok (.aload_n 0, 1) := by decide +kernel
theorem dX10_guestLine_37 : decode cX10_guestLine 37 = .ok (.getfield 25, 3) := by decide +kernel
theorem dX10_guestLine_40 : decode cX10_guestLine 40 = .ok (.iconst (-1), 1) := by decide +kernel
theorem dX10_guestLine_41 : decode cX10_guestLine 41 = .ok (.if_icmp .ne 22, 3) := by decide +kernel
theorem dX10_guestLine_44 : decode cX10_guestLine 44 = .ok (.aload_n 0, 1) := by decide +kernel
theorem dX10_guestLine_45 : decode cX10_guestLine 45 = .ok (.ldc 110, 2) := by decide +kernel
theorem dX10_guestLine_47 : decode cX10_guestLine 47 = .ok (.invokevirtual 96, 3) := by decide +kernel
theorem dX10_guestLine_50 : decode cX10_guestLine 50 = .ok (.ifCond .eq 13, 3) := by decide +kernel
theorem dX10_guestLine_53 : decode cX10_guestLine 53 = .ok (.aload_n 0, 1) := by decide +kernel
theorem dX10_guestLine_54 : decode cX10_guestLine 54 = .ok (.iconst 0, 1) := by decide +kernel
theorem dX10_guestLine_55 : decode cX10_guestLine 55 = .ok (.bipush 99, 2) := by decide +kernel
theorem dX10_guestLine_57 : decode cX10_guestLine 57 = .ok (.invokevirtual 100, 3) := by decide +kernel
theorem dX10_guestLine_60 : decode cX10_guestLine 60 = .ok (.goto 4, 3) := by decide +kernel
theorem dX10_guestLine_63 : decode cX10_guestLine 63 = .ok (.iconst 0, 1) := by decide +kernel
theorem dX10_guestLine_64 : decode cX10_guestLine 64 = .ok (.istore 4, 2) := by decide +kernel
theorem dX10_guestLine_66 : decode cX10_guestLine 66 = .ok (.aload_n 0, 1) := by decide +kernel
theorem dX10_guestLine_67 : decode cX10_guestLine 67 = .ok (.getfield 25, 3) := by decide +kernel
theorem dX10_guestLine_70 : decode cX10_guestLine 70 = .ok (.iconst (-1), 1) := by decide +kernel
theorem dX10_guestLine_71 : decode cX10_guestLine 71 = .ok (.if_icmp .ne 16, 3) := by decide +kernel
theorem dX10_guestLine_74 : decode cX10_guestLine 74 = .ok (.aload_n 0, 1) := by decide +kernel
theorem dX10_guestLine_75 : decode cX10_guestLine 75 = .ok (.ldc 112, 2) := by decide +kernel
theorem dX10_guestLine_77 : decode cX10_guestLine 77 = .ok (.invokevirtual 96, 3) := by decide +kernel
theorem dX10_guestLine_80 : decode cX10_guestLine 80 = .ok (.ifCond .eq 7, 3) := by decide +kernel
theorem dX10_guestLine_83 : decode cX10_guestLine 83 = .ok (.iconst 1, 1) := by decide +kernel
theorem dX10_guestLine_84 : decode cX10_guestLine 84 = .ok (.goto 4, 3) := by decide +kernel
theorem dX10_guestLine_87 : decode cX10_guestLine 87 = .ok (.iconst 0, 1) := by decide +kernel
theorem dX10_guestLine_88 : decode cX10_guestLine 88 = .ok (.istore 5, 2) := by decide +kernel
theorem dX10_guestLine_90 : decode cX10_guestLine 90 = .ok (.aload_n 0, 1) := by decide +kernel
theorem dX10_guestLine_91 : decode cX10_guestLine 91 = .ok (.getfield 25, 3) := by decide +kernel
theorem dX10_guestLine_94 : decode cX10_guestLine 94 = .ok (.iconst (-1), 1) := by decide +kernel
theorem dX10_guestLine_95 : decode cX10_guestLine 95 = .ok (.if_icmp .eq 4, 3) := by decide +kernel
theorem dX10_guestLine_98 : decode cX10_guestLine 98 = .ok (.return_, 1) := by decide +kernel
theorem dX10_guestLine_99 : decode cX10_guestLine 99 = .ok (.aload_n 0, 1) := by decide +kernel
theorem dX10_guestLine_100 : decode cX10_guestLine 100 = .ok (.getfield 7, 3) := by decide +kernel
theorem dX10_guestLine_103 : decode cX10_guestLine 103 = .ok (.iconst 3, 1) := by decide +kernel
theorem dX10_guestLine_104 : decode cX10_guestLine 104 = .ok (.iaload, 1) := by decide +kernel
theorem dX10_guestLine_105 : decode cX10_guestLine 105 = .ok (.istore 6, 2) := by decide +kernel
theorem dX10_guestLine_107 : decode cX10_guestLine 107 = .ok (.aload_n 0, 1) := by decide +kernel
theorem dX10_guestLine_108 : decode cX10_guestLine 108 = .ok (.iload 6, 2) := by decide +kernel
theorem dX10_guestLine_110 : decode cX10_guestLine 110 = .ok (.iconst 0, 1) := by decide +kernel
theorem dX10_guestLine_111 : decode cX10_guestLine 111 = .ok (.iload_n 3, 1) := by decide +kernel
theorem dX10_guestLine_112 : decode cX10_guestLine 112 = .ok (.invokevirtual 114, 3) := by decide +kernel
theorem dX10_guestLine_115 : decode cX10_guestLine 115 = .ok (.aload_n 0, 1) := by decide +kernel
theorem dX10_guestLine_116 : decode cX10_guestLine 116 = .ok (.iload 6, 2) := by decide +kernel
theorem dX10_guestLine_118 : decode cX10_guestLine 118 = .ok (.iconst 1, 1) := by decide +kernel
theorem dX10_guestLine_119 : decode cX10_guestLine 119 = .ok (.iload_n 2, 1) := by decide +kernel
theorem dX10_guestLine_120 : decode cX10_guestLine 120 = .ok (.invokevirtual 114, 3) := by decide +kernel
theorem dX10_guestLine_123 : decode cX10_guestLine 123 = .ok (.aload_n 0, 1) := by decide +kernel
theorem dX10_guestLine_124 : decode cX10_guestLine 124 = .ok (.iload 6, 2) := by decide +kernel
theorem dX10_guestLine_126 : decode cX10_guestLine 126 = .ok (.iconst 2, 1) := by decide +kernel
theorem dX10_guestLine_127 : decode cX10_guestLine 127 = .ok (.iload 4, 2) := by decide +kernel
theorem dX10_guestLine_129 : decode cX10_guestLine 129 = .ok (.invokevirtual 114, 3) := by decide +kernel
theorem dX10_guestLine_132 : decode cX10_guestLine 132 = .ok (.aload_n 0, 1) := by decide +kernel
theorem dX10_guestLine_133 : decode cX10_guestLine 133 = .ok (.iload 6, 2) := by decide +kernel
theorem dX10_guestLine_135 : decode cX10_guestLine 135 = .ok (.iconst 3, 1) := by decide +kernel
theorem dX10_guestLine_136 : decode cX10_guestLine 136 = .ok (.iload 5, 2) := by decide +kernel
theorem dX10_guestLine_138 : decode cX10_guestLine 138 = .ok (.ifCond .eq 7, 3) := by decide +kernel
theorem dX10_guestLine_141 : decode cX10_guestLine 141 = .ok (.iconst 1, 1) := by decide +kernel
theorem dX10_guestLine_142 : decode cX10_guestLine 142 = .ok (.goto 4, 3) := by decide +kernel
theorem dX10_guestLine_145 : decode cX10_guestLine 145 = .ok (.iconst 0, 1) := by decide +kernel
theorem dX10_guestLine_146 : decode cX10_guestLine 146 = .ok (.invokevirtual 114, 3) := by decide +kernel
theorem dX10_guestLine_149 : decode cX10_guestLine 149 = .ok (.aload_n 0, 1) := by decide +kernel
theorem dX10_guestLine_150 : decode cX10_guestLine 150 = .ok (.iload 6, 2) := by decide +kernel
theorem dX10_guestLine_152 : decode cX10_guestLine 152 = .ok (.iconst 4, 1) := by decide +kernel
theorem dX10_guestLine_153 : decode cX10_guestLine 153 = .ok (.iconst 1, 1) := by decide +kernel
theorem dX10_guestLine_154 : decode cX10_guestLine 154 = .ok (.invokevirtual 114, 3) := by decide +kernel
theorem dX10_guestLine_157 : decode cX10_guestLine 157 = .ok (.aload_n 0, 1) := by decide +kernel
theorem dX10_guestLine_158 : decode cX10_guestLine 158 = .ok (.getfield 7, 3) := by decide +kernel
theorem dX10_guestLine_161 : decode cX10_guestLine 161 = .ok (.iconst 3, 1) := by decide +kernel
theorem dX10_guestLine_162 : decode cX10_guestLine 162 = .ok (.dup2, 1) := by decide +kernel
theorem dX10_guestLine_163 : decode cX10_guestLine 163 = .ok (.iaload, 1) := by decide +kernel
theorem dX10_guestLine_164 : decode cX10_guestLine 164 = .ok (.iconst 1, 1) := by decide +kernel
theorem dX10_guestLine_165 : decode cX10_guestLine 165 = .ok (.iadd, 1) := by decide +kernel
theorem dX10_guestLine_166 : decode cX10_guestLine 166 = .ok (.iastore, 1) := by decide +kernel
theorem dX10_guestLine_167 : decode cX10_guestLine 167 = .ok (.return_, 1) := by decide +kernel
def f_X10_guestLine (μ : Mem) (a1 : Int32) : Option (Mem) := ix 3 704 (nm (fun (μ1 : Mem) => (f_X10_after 52 μ1 0 10).bind fun (q2 : Int32 × Mem) => (f_X10_after 59 q2.2 0 7).bind fun (q3 : Int32 × Mem) => nm (fun (x4 : Int32) (μ5 : Mem) => nm (fun (x6 : Int32) (μ7 : Mem) => if (μ7 0 12 12) = (-1) then (ix 3 704 (nm (μ7 0 13 (Int32.toNatClampNeg 3)) fun (x8 : Int32) => (f_X10_put μ7 x8 0 q3.1).bind fun (q9 : Mem) => (f_X10_put q9 x8 1 q2.1).bind fun (q10 : Mem) => (f_X10_put q10 x8 2 x4).bind fun (q11 : Mem) => nm (fun (x12 : Int32) => (f_X10_put q11 x8 3 x12).bind fun (q13 : Mem) => (f_X10_put q13 x8 4 1).bind fun (q14 : Mem) => ix 3 704 (ix 3 704 (nm (upm q14 0 13 (Int32.toNatClampNeg 3) ((q14 0 13 (Int32.toNatClampNeg 3)) + 1)) fun (μ15 : Mem) => some μ15))) fun (J146 : Int32 → Option (Mem)) => if x6 = 0 then (J146 0) else (J146 1))) else (some μ7)) fun (J88 : Int32 → Mem → Option (Mem)) => nm (fun (μ16 : Mem) => J88 0 μ16) fun (J87 : Mem → Option (Mem)) => if (μ5 0 12 12) = (-1) then ((f_X10_has 48 μ5).bind fun (q17 : Int32 × Mem) => if q17.1 = 0 then (J87 q17.2) else (J88 1 q17.2)) else (J87 μ5)) fun (J64 : Int32 → Mem → Option (Mem)) => nm (fun (μ18 : Mem) => J64 0 μ18) fun (J63 : Mem → Option (Mem)) => if (q3.2 0 12 12) = (-1) then ((f_X10_has 44 q3.2).bind fun (q19 : Int32 × Mem) => if q19.1 = 0 then (J63 q19.2) else ((f_X10_figures q19.2 0 99).bind fun (q20 : Int32 × Mem) => J64 q20.1 q20.2)) else (J63 q3.2)) fun (J16 : Mem → Option (Mem)) => if (μ 0 13 (Int32.toNatClampNeg 3)) = 8 then ((f_X10_wrong μ a1).bind fun (q21 : Mem) => J16 q21) else (J16 μ))
set_option maxHeartbeats 4000000 in
set_option maxRecDepth 100000 in
theorem c_X10_guestLine (G : GG) (l : Launch) (μ : Mem) (a1 : Int32) : CV G l yX10_guestLine (.code yX10_guestLine cX10_guestLine 7 none) 12 [.ref (gad G 0 12), .int a1] μ (f_X10_guestLine μ a1) := by
  refine CV.of (own := "SaturdayKeepModel") (L0 := [some (.ref (gad G 0 12)), some (.int a1), none, none, none, none, none]) rfl rfl rfl (Nat.le_of_ble_eq_true rfl) (fun C hl hC => ?_)
  subst hl
  delta f_X10_guestLine
  refine aw_aload_n (pc := 0) (i := 0) hC dX10_guestLine_0 rfl rfl ?_
  refine aw_get (pc := 1) hC inX10 (v0 (j := 12) (by decide)) rfl rfl 1 (by decide) kw1315 rfl rfl dX10_guestLine_1 ?_
  refine aw_iconst (pc := 4) (v := 3) hC dX10_guestLine_4 ic3 ?_
  refine aw_iaload (pc := 5) hC (v0 (j := 13) (by decide)) rfl dX10_guestLine_5 ?_
  refine aw_bipush (pc := 6) (v := 8) hC dX10_guestLine_6 bc8 ?_
  refine aw_nmJ (fun (J16 : Mem → Option (Mem)) => ∀ (μ1 : Mem), AW G C (qV G C 0 0) 0 0 7 μ1 16 [some (.ref (gad G 0 12)), none, none, none, none, none, none] [] (J16 μ1)) (fun μ1 => ?_) (fun J16 hJ16 => ?_)
  · skip
    refine aw_aload_n (pc := 16) (i := 0) hC dX10_guestLine_16 rfl rfl ?_
    refine aw_ldcS (pc := 17) (i := 52) hC rfl dX10_guestLine_17 ?_
    refine aw_iconst (pc := 19) (v := 0) hC dX10_guestLine_19 ic0 ?_
    refine aw_bipush (pc := 20) (v := 10) hC dX10_guestLine_20 bc10 ?_
    refine aw_callVI (pc := 22) (As := [.ref (gsK G 52), .int 0, .int 10]) hC mb_X10_after kw1494 (by decide) (c_X10_after G C.2.1 52 (by decide) μ1 0 10) (v0 (j := 12) (by decide)) rfl rfl rfl (Nat.le_of_ble_eq_true rfl) dX10_guestLine_22 (fun q2 => ?_)
    refine aw_istore_n (pc := 25) (i := 2) hC dX10_guestLine_25 rfl rfl (by decide) ?_
    refine aw_aload_n (pc := 26) (i := 0) hC dX10_guestLine_26 rfl rfl ?_
    refine aw_ldcS (pc := 27) (i := 59) hC rfl dX10_guestLine_27 ?_
    refine aw_iconst (pc := 29) (v := 0) hC dX10_guestLine_29 ic0 ?_
    refine aw_bipush (pc := 30) (v := 7) hC dX10_guestLine_30 bc7 ?_
    refine aw_callVI (pc := 32) (As := [.ref (gsK G 59), .int 0, .int 7]) hC mb_X10_after kw1494 (by decide) (c_X10_after G C.2.1 59 (by decide) q2.2 0 7) (v0 (j := 12) (by decide)) rfl rfl rfl (Nat.le_of_ble_eq_true rfl) dX10_guestLine_32 (fun q3 => ?_)
    refine aw_istore_n (pc := 35) (i := 3) hC dX10_guestLine_35 rfl rfl (by decide) ?_
    refine aw_aload_n (pc := 36) (i := 0) hC dX10_guestLine_36 rfl rfl ?_
    refine aw_get (pc := 37) hC inX10 (v0 (j := 12) (by decide)) rfl rfl 12 (by decide) kw1326 rfl rfl dX10_guestLine_37 ?_
    refine aw_iconst (pc := 40) (v := (-1)) hC dX10_guestLine_40 icm1 ?_
    refine aw_nmJ (fun (J64 : Int32 → Mem → Option (Mem)) => ∀ (x4 : Int32) (μ5 : Mem), AW G C (qV G C 0 0) 0 0 7 μ5 64 [some (.ref (gad G 0 12)), none, some (.int q2.1), some (.int q3.1), none, none, none] [.int x4] (J64 x4 μ5)) (fun x4 μ5 => ?_) (fun J64 hJ64 => ?_)
    · skip
      refine aw_istore (pc := 64) hC dX10_guestLine_64 rfl (by decide) ?_
      refine aw_aload_n (pc := 66) (i := 0) hC dX10_guestLine_66 rfl rfl ?_
      refine aw_get (pc := 67) hC inX10 (v0 (j := 12) (by decide)) rfl rfl 12 (by decide) kw1326 rfl rfl dX10_guestLine_67 ?_
      refine aw_iconst (pc := 70) (v := (-1)) hC dX10_guestLine_70 icm1 ?_
      refine aw_nmJ (fun (J88 : Int32 → Mem → Option (Mem)) => ∀ (x6 : Int32) (μ7 : Mem), AW G C (qV G C 0 0) 0 0 7 μ7 88 [some (.ref (gad G 0 12)), none, some (.int q2.1), some (.int q3.1), some (.int x4), none, none] [.int x6] (J88 x6 μ7)) (fun x6 μ7 => ?_) (fun J88 hJ88 => ?_)
      · skip
        refine aw_istore (pc := 88) hC dX10_guestLine_88 rfl (by decide) ?_
        refine aw_aload_n (pc := 90) (i := 0) hC dX10_guestLine_90 rfl rfl ?_
        refine aw_get (pc := 91) hC inX10 (v0 (j := 12) (by decide)) rfl rfl 12 (by decide) kw1326 rfl rfl dX10_guestLine_91 ?_
        refine aw_iconst (pc := 94) (v := (-1)) hC dX10_guestLine_94 icm1 ?_
        refine aw_icmp_eq (pc := 95) (tgt := 99) hC dX10_guestLine_95 (by decide) (fun _ => ?_) (fun _ => ?_)
        · skip
          refine aw_aload_n (pc := 99) (i := 0) hC dX10_guestLine_99 rfl rfl ?_
          refine aw_get (pc := 100) hC inX10 (v0 (j := 12) (by decide)) rfl rfl 1 (by decide) kw1315 rfl rfl dX10_guestLine_100 ?_
          refine aw_iconst (pc := 103) (v := 3) hC dX10_guestLine_103 ic3 ?_
          refine aw_iaload (pc := 104) hC (v0 (j := 13) (by decide)) rfl dX10_guestLine_104 ?_
          refine aw_nmI (fun x8 _ => ?_)
          refine aw_istore (pc := 105) hC dX10_guestLine_105 rfl (by decide) ?_
          refine aw_aload_n (pc := 107) (i := 0) hC dX10_guestLine_107 rfl rfl ?_
          refine aw_iload (pc := 108) hC dX10_guestLine_108 rfl ?_
          refine aw_iconst (pc := 110) (v := 0) hC dX10_guestLine_110 ic0 ?_
          refine aw_iload_n (pc := 111) (i := 3) hC dX10_guestLine_111 rfl rfl ?_
          refine aw_callVV (pc := 112) (As := [.int x8, .int 0, .int q3.1]) hC mb_X10_put kw1499 (by decide) (c_X10_put G C.2.1   μ7 x8 0 q3.1) (v0 (j := 12) (by decide)) rfl rfl rfl (Nat.le_of_ble_eq_true rfl) dX10_guestLine_112 (fun q9 => ?_)
          refine aw_aload_n (pc := 115) (i := 0) hC dX10_guestLine_115 rfl rfl ?_
          refine aw_iload (pc := 116) hC dX10_guestLine_116 rfl ?_
          refine aw_iconst (pc := 118) (v := 1) hC dX10_guestLine_118 ic1 ?_
          refine aw_iload_n (pc := 119) (i := 2) hC dX10_guestLine_119 rfl rfl ?_
          refine aw_callVV (pc := 120) (As := [.int x8, .int 1, .int q2.1]) hC mb_X10_put kw1499 (by decide) (c_X10_put G C.2.1   q9 x8 1 q2.1) (v0 (j := 12) (by decide)) rfl rfl rfl (Nat.le_of_ble_eq_true rfl) dX10_guestLine_120 (fun q10 => ?_)
          refine aw_aload_n (pc := 123) (i := 0) hC dX10_guestLine_123 rfl rfl ?_
          refine aw_iload (pc := 124) hC dX10_guestLine_124 rfl ?_
          refine aw_iconst (pc := 126) (v := 2) hC dX10_guestLine_126 ic2 ?_
          refine aw_iload (pc := 127) hC dX10_guestLine_127 rfl ?_
          refine aw_callVV (pc := 129) (As := [.int x8, .int 2, .int x4]) hC mb_X10_put kw1499 (by decide) (c_X10_put G C.2.1   q10 x8 2 x4) (v0 (j := 12) (by decide)) rfl rfl rfl (Nat.le_of_ble_eq_true rfl) dX10_guestLine_129 (fun q11 => ?_)
          refine aw_aload_n (pc := 132) (i := 0) hC dX10_guestLine_132 rfl rfl ?_
          refine aw_iload (pc := 133) hC dX10_guestLine_133 rfl ?_
          refine aw_iconst (pc := 135) (v := 3) hC dX10_guestLine_135 ic3 ?_
          refine aw_iload (pc := 136) hC dX10_guestLine_136 rfl ?_
          refine aw_nmJ (fun (J146 : Int32 → Option (Mem)) => ∀ (x12 : Int32), AW G C (qV G C 0 0) 0 0 7 q11 146 [some (.ref (gad G 0 12)), none, none, none, none, none, some (.int x8)] [.int x12, .int 3, .int x8, .ref (gad G 0 12)] (J146 x12)) (fun x12 => ?_) (fun J146 hJ146 => ?_)
          · skip
            refine aw_callVV (pc := 146) (As := [.int x8, .int 3, .int x12]) hC mb_X10_put kw1499 (by decide) (c_X10_put G C.2.1   q11 x8 3 x12) (v0 (j := 12) (by decide)) rfl rfl rfl (Nat.le_of_ble_eq_true rfl) dX10_guestLine_146 (fun q13 => ?_)
            refine aw_aload_n (pc := 149) (i := 0) hC dX10_guestLine_149 rfl rfl ?_
            refine aw_iload (pc := 150) hC dX10_guestLine_150 rfl ?_
            refine aw_iconst (pc := 152) (v := 4) hC dX10_guestLine_152 ic4 ?_
            refine aw_iconst (pc := 153) (v := 1) hC dX10_guestLine_153 ic1 ?_
            refine aw_callVV (pc := 154) (As := [.int x8, .int 4, .int 1]) hC mb_X10_put kw1499 (by decide) (c_X10_put G C.2.1   q13 x8 4 1) (v0 (j := 12) (by decide)) rfl rfl rfl (Nat.le_of_ble_eq_true rfl) dX10_guestLine_154 (fun q14 => ?_)
            refine aw_aload_n (pc := 157) (i := 0) hC dX10_guestLine_157 rfl rfl ?_
            refine aw_get (pc := 158) hC inX10 (v0 (j := 12) (by decide)) rfl rfl 1 (by decide) kw1315 rfl rfl dX10_guestLine_158 ?_
            refine aw_iconst (pc := 161) (v := 3) hC dX10_guestLine_161 ic3 ?_
            refine aw_dup2 (pc := 162) hC dX10_guestLine_162 rfl rfl ?_
            refine aw_iaload (pc := 163) hC (v0 (j := 13) (by decide)) rfl dX10_guestLine_163 ?_
            refine aw_iconst (pc := 164) (v := 1) hC dX10_guestLine_164 ic1 ?_
            refine aw_iadd (pc := 165) hC dX10_guestLine_165 ?_
            refine aw_iastoreN (pc := 166) hC (v0 (j := 13) (by decide)) (fun _ => rfl) dX10_guestLine_166 (fun μ15 => ?_)
            exact aw_vret hC dX10_guestLine_167
          · skip
            refine aw_if_eq (pc := 138) (tgt := 145) hC dX10_guestLine_138 (by decide) (fun _ => ?_) (fun _ => ?_)
            · skip
              refine aw_iconst (pc := 145) (v := 0) hC dX10_guestLine_145 ic0 ?_
              exact aw_drop [2, 3, 4, 5] (hJ146 0)
            · skip
              refine aw_iconst (pc := 141) (v := 1) hC dX10_guestLine_141 ic1 ?_
              refine aw_goto (pc := 142) (tgt := 146) hC dX10_guestLine_142 (by decide) ?_
              exact aw_drop [2, 3, 4, 5] (hJ146 1)
        · skip
          exact aw_vret hC dX10_guestLine_98
      · skip
        refine aw_nmJ (fun (J87 : Mem → Option (Mem)) => ∀ (μ16 : Mem), AW G C (qV G C 0 0) 0 0 7 μ16 87 [some (.ref (gad G 0 12)), none, some (.int q2.1), some (.int q3.1), some (.int x4), none, none] [] (J87 μ16)) (fun μ16 => ?_) (fun J87 hJ87 => ?_)
        · skip
          refine aw_iconst (pc := 87) (v := 0) hC dX10_guestLine_87 ic0 ?_
          exact hJ88 0 μ16
        · skip
          refine aw_icmp_ne (pc := 71) (tgt := 87) hC dX10_guestLine_71 (by decide) (fun _ => ?_) (fun _ => ?_)
          · skip
            refine aw_aload_n (pc := 74) (i := 0) hC dX10_guestLine_74 rfl rfl ?_
            refine aw_ldcS (pc := 75) (i := 48) hC rfl dX10_guestLine_75 ?_
            refine aw_callVI (pc := 77) (As := [.ref (gsK G 48)]) hC mb_X10_has kw1430 (by decide) (c_X10_has G C.2.1 48 (by decide) μ5 ) (v0 (j := 12) (by decide)) rfl rfl rfl (Nat.le_of_ble_eq_true rfl) dX10_guestLine_77 (fun q17 => ?_)
            refine aw_if_eq (pc := 80) (tgt := 87) hC dX10_guestLine_80 (by decide) (fun _ => ?_) (fun _ => ?_)
            · skip
              exact hJ87 q17.2
            · skip
              refine aw_iconst (pc := 83) (v := 1) hC dX10_guestLine_83 ic1 ?_
              refine aw_goto (pc := 84) (tgt := 88) hC dX10_guestLine_84 (by decide) ?_
              exact hJ88 1 q17.2
          · skip
            exact hJ87 μ5
    · skip
      refine aw_nmJ (fun (J63 : Mem → Option (Mem)) => ∀ (μ18 : Mem), AW G C (qV G C 0 0) 0 0 7 μ18 63 [some (.ref (gad G 0 12)), none, some (.int q2.1), some (.int q3.1), none, none, none] [] (J63 μ18)) (fun μ18 => ?_) (fun J63 hJ63 => ?_)
      · skip
        refine aw_iconst (pc := 63) (v := 0) hC dX10_guestLine_63 ic0 ?_
        exact hJ64 0 μ18
      · skip
        refine aw_icmp_ne (pc := 41) (tgt := 63) hC dX10_guestLine_41 (by decide) (fun _ => ?_) (fun _ => ?_)
        · skip
          refine aw_aload_n (pc := 44) (i := 0) hC dX10_guestLine_44 rfl rfl ?_
          refine aw_ldcS (pc := 45) (i := 44) hC rfl dX10_guestLine_45 ?_
          refine aw_callVI (pc := 47) (As := [.ref (gsK G 44)]) hC mb_X10_has kw1430 (by decide) (c_X10_has G C.2.1 44 (by decide) q3.2 ) (v0 (j := 12) (by decide)) rfl rfl rfl (Nat.le_of_ble_eq_true rfl) dX10_guestLine_47 (fun q19 => ?_)
          refine aw_if_eq (pc := 50) (tgt := 63) hC dX10_guestLine_50 (by decide) (fun _ => ?_) (fun _ => ?_)
          · skip
            exact hJ63 q19.2
          · skip
            refine aw_aload_n (pc := 53) (i := 0) hC dX10_guestLine_53 rfl rfl ?_
            refine aw_iconst (pc := 54) (v := 0) hC dX10_guestLine_54 ic0 ?_
            refine aw_bipush (pc := 55) (v := 99) hC dX10_guestLine_55 bc99 ?_
            refine aw_callVI (pc := 57) (As := [.int 0, .int 99]) hC mb_X10_figures kw1437 (by decide) (c_X10_figures G C.2.1   q19.2 0 99) (v0 (j := 12) (by decide)) rfl rfl rfl (Nat.le_of_ble_eq_true rfl) dX10_guestLine_57 (fun q20 => ?_)
            refine aw_goto (pc := 60) (tgt := 64) hC dX10_guestLine_60 (by decide) ?_
            exact hJ64 q20.1 q20.2
        · skip
          exact hJ63 q3.2
  · skip
    refine aw_icmp_ne (pc := 8) (tgt := 16) hC dX10_guestLine_8 (by decide) (fun _ => ?_) (fun _ => ?_)
    · skip
      refine aw_aload_n (pc := 11) (i := 0) hC dX10_guestLine_11 rfl rfl ?_
      refine aw_iload_n (pc := 12) (i := 1) hC dX10_guestLine_12 rfl rfl ?_
      refine aw_callVV (pc := 13) (As := [.int a1]) hC mb_X10_wrong kw1421 (by decide) (c_X10_wrong G C.2.1   μ a1) (v0 (j := 12) (by decide)) rfl rfl rfl (Nat.le_of_ble_eq_true rfl) dX10_guestLine_13 (fun q21 => ?_)
      exact aw_drop [1] (hJ16 q21)
    · skip
      exact aw_drop [1] (hJ16 μ)
theorem dX10_holeLine_0 : decode cX10_holeLine 0 = .ok (.aload_n 0, 1) := by decide +kernel
theorem dX10_holeLine_1 : decode cX10_holeLine 1 = .ok (.iconst 0, 1) := by decide +kernel
theorem dX10_holeLine_2 : decode cX10_holeLine 2 = .ok (.bipush 7, 2) := by decide +kernel
theorem dX10_holeLine_4 : decode cX10_holeLine 4 = .ok (.invokevirtual 100, 3) := by decide +kernel
theorem dX10_holeLine_7 : decode cX10_holeLine 7 = .ok (.istore_n 1, 1) := by decide +kernel
theorem dX10_holeLine_8 : decode cX10_holeLine 8 = .ok (.aload_n 0, 1) := by decide +kernel
theorem dX10_holeLine_9 : decode cX10_holeLine 9 = .ok (.invokevirtual 89, 3) := by decide +kernel
theorem dX10_holeLine_12 : decode cX10_holeLine 12 = .ok (.istore_n 2, 1) := by decide +kernel
theorem dX10_holeLine_13 : decode cX10_holeLine 13 = .ok (.aload_n 0, 1) := by decide +kernel
theorem dX10_holeLine_14 : decode cX10_holeLine 14 = .ok (.iconst 0, 1) := by decide +kernel
theorem dX10_holeLine_15 : decode cX10_holeLine 15 = .ok (.bipush 7, 2) := by decide +kernel
theorem dX10_holeLine_17 : decode cX10_holeLine 17 = .ok (.invokevirtual 100, 3) := by decide +kernel
theorem dX10_holeLine_20 : decode cX10_holeLine 20 = .ok (.istore_n 3, 1) := by decide +kernel
theorem dX10_holeLine_21 : decode cX10_holeLine 21 = .ok (.aload_n 0, 1) := by decide +kernel
theorem dX10_holeLine_22 : decode cX10_holeLine 22 = .ok (.getfield 25, 3) := by decide +kernel
theorem dX10_holeLine_25 : decode cX10_holeLine 25 = .ok (.iconst (-1), 1) := by decide +kernel
theorem dX10_holeLine_26 : decode cX10_holeLine 26 = .ok (.if_icmp .ne 13, 3) := by decide +kernel
theorem dX10_holeLine_29 : decode cX10_holeLine 29 = .ok (.iload_n 3, 1) := by decide +kernel
theorem dX10_holeLine_30 : decode cX10_holeLine 30 = .ok (.iload_n 1, 1) := by decide +kernel
theorem dX10_holeLine_31 : decode cX10_holeLine 31 = .ok (.if_icmp .ne 8, 3) := by decide +kernel
theorem dX10_holeLine_34 : decode cX10_holeLine 34 = .ok (.aload_n 0, 1) := by decide +kernel
theorem dX10_holeLine_35 : decode cX10_holeLine 35 = .ok (.iload_n 2, 1) := by decide +kernel
theorem dX10_holeLine_36 : decode cX10_holeLine 36 = .ok (.invokevirtual 92, 3) := by decide +kernel
theorem dX10_holeLine_39 : decode cX10_holeLine 39 = .ok (.aload_n 0, 1) := by decide +kernel
theorem dX10_holeLine_40 : decode cX10_holeLine 40 = .ok (.getfield 25, 3) := by decide +kernel
theorem dX10_holeLine_43 : decode cX10_holeLine 43 = .ok (.iconst (-1), 1) := by decide +kernel
theorem dX10_holeLine_44 : decode cX10_holeLine 44 = .ok (.if_icmp .ne 18, 3) := by decide +kernel
theorem dX10_holeLine_47 : decode cX10_holeLine 47 = .ok (.aload_n 0, 1) := by decide +kernel
theorem dX10_holeLine_48 : decode cX10_holeLine 48 = .ok (.getfield 7, 3) := by decide +kernel
theorem dX10_holeLine_51 : decode cX10_holeLine 51 = .ok (.bipush 16, 2) := by decide +kernel
theorem dX10_holeLine_53 : decode cX10_holeLine 53 = .ok (.iload_n 1, 1) := by decide +kernel
theorem dX10_holeLine_54 : decode cX10_holeLine 54 = .ok (.iadd, 1) := by decide +kernel
theorem dX10_holeLine_55 : decode cX10_holeLine 55 = .ok (.dup2, 1) := by decide +kernel
theorem dX10_holeLine_56 : decode cX10_holeLine 56 = .ok (.iaload, 1) := by decide +kernel
theorem dX10_holeLine_57 : decode cX10_holeLine 57 = .ok (.iconst 1, 1) := by decide +kernel
theorem dX10_holeLine_58 : decode cX10_holeLine 58 = .ok (.iload_n 3, 1) := by decide +kernel
theorem dX10_holeLine_59 : decode cX10_holeLine 59 = .ok (.ishl, 1) := by decide +kernel
theorem dX10_holeLine_60 : decode cX10_holeLine 60 = .ok (.ior, 1) := by decide +kernel
theorem dX10_holeLine_61 : decode cX10_holeLine 61 = .ok (.iastore, 1) := by decide +kernel
theorem dX10_holeLine_62 : decode cX10_holeLine 62 = .ok (.return_, 1) := by decide +kernel
def f_X10_holeLine (μ : Mem) : Option (Mem) := (f_X10_figures μ 0 7).bind fun (q1 : Int32 × Mem) => (f_X10_place q1.2).bind fun (q2 : Int32 × Mem) => (f_X10_figures q2.2 0 7).bind fun (q3 : Int32 × Mem) => nm (fun (μ4 : Mem) => if (μ4 0 12 12) = (-1) then (ix (16 + q1.1) 704 (ix (16 + q1.1) 704 (nm (upm μ4 0 13 (16 + q1.1).toNatClampNeg ((μ4 0 13 (16 + q1.1).toNatClampNeg) ||| (jshl 1 q3.1))) fun (μ5 : Mem) => some μ5))) else (some μ4)) fun (J39 : Mem → Option (Mem)) => if (q3.2 0 12 12) = (-1) then (if q3.1 = q1.1 then ((f_X10_wrong q3.2 q2.1).bind fun (q6 : Mem) => J39 q6) else (J39 q3.2)) else (J39 q3.2)
set_option maxHeartbeats 4000000 in
set_option maxRecDepth 100000 in
theorem c_X10_holeLine (G : GG) (l : Launch) (μ : Mem) : CV G l yX10_holeLine (.code yX10_holeLine cX10_holeLine 4 none) 5 [.ref (gad G 0 12)] μ (f_X10_holeLine μ) := by
  refine CV.of (own := "SaturdayKeepModel") (L0 := [some (.ref (gad G 0 12)), none, none, none]) rfl rfl rfl (Nat.le_of_ble_eq_true rfl) (fun C hl hC => ?_)
  subst hl
  delta f_X10_holeLine
  refine aw_aload_n (pc := 0) (i := 0) hC dX10_holeLine_0 rfl rfl ?_
  refine aw_iconst (pc := 1) (v := 0) hC dX10_holeLine_1 ic0 ?_
  refine aw_bipush (pc := 2) (v := 7) hC dX10_holeLine_2 bc7 ?_
  refine aw_callVI (pc := 4) (As := [.int 0, .int 7]) hC mb_X10_figures kw1437 (by decide) (c_X10_figures G C.2.1   μ 0 7) (v0 (j := 12) (by decide)) rfl rfl rfl (Nat.le_of_ble_eq_true rfl) dX10_holeLine_4 (fun q1 => ?_)
  refine aw_istore_n (pc := 7) (i := 1) hC dX10_holeLine_7 rfl rfl (by decide) ?_
  refine aw_aload_n (pc := 8) (i := 0) hC dX10_holeLine_8 rfl rfl ?_
  refine aw_callVI (pc := 9) (As := []) hC mb_X10_place kw1441 (by decide) (c_X10_place G C.2.1   q1.2 ) (v0 (j := 12) (by decide)) rfl rfl rfl (Nat.le_of_ble_eq_true rfl) dX10_holeLine_9 (fun q2 => ?_)
  refine aw_istore_n (pc := 12) (i := 2) hC dX10_holeLine_12 rfl rfl (by decide) ?_
  refine aw_aload_n (pc := 13) (i := 0) hC dX10_holeLine_13 rfl rfl ?_
  refine aw_iconst (pc := 14) (v := 0) hC dX10_holeLine_14 ic0 ?_
  refine aw_bipush (pc := 15) (v := 7) hC dX10_holeLine_15 bc7 ?_
  refine aw_callVI (pc := 17) (As := [.int 0, .int 7]) hC mb_X10_figures kw1437 (by decide) (c_X10_figures G C.2.1   q2.2 0 7) (v0 (j := 12) (by decide)) rfl rfl rfl (Nat.le_of_ble_eq_true rfl) dX10_holeLine_17 (fun q3 => ?_)
  refine aw_istore_n (pc := 20) (i := 3) hC dX10_holeLine_20 rfl rfl (by decide) ?_
  refine aw_aload_n (pc := 21) (i := 0) hC dX10_holeLine_21 rfl rfl ?_
  refine aw_get (pc := 22) hC inX10 (v0 (j := 12) (by decide)) rfl rfl 12 (by decide) kw1326 rfl rfl dX10_holeLine_22 ?_
  refine aw_iconst (pc := 25) (v := (-1)) hC dX10_holeLine_25 icm1 ?_
  refine aw_nmJ (fun (J39 : Mem → Option (Mem)) => ∀ (μ4 : Mem), AW G C (qV G C 0 0) 0 0 4 μ4 39 [some (.ref (gad G 0 12)), some (.int q1.1), none, some (.int q3.1)] [] (J39 μ4)) (fun μ4 => ?_) (fun J39 hJ39 => ?_)
  · skip
    refine aw_aload_n (pc := 39) (i := 0) hC dX10_holeLine_39 rfl rfl ?_
    refine aw_get (pc := 40) hC inX10 (v0 (j := 12) (by decide)) rfl rfl 12 (by decide) kw1326 rfl rfl dX10_holeLine_40 ?_
    refine aw_iconst (pc := 43) (v := (-1)) hC dX10_holeLine_43 icm1 ?_
    refine aw_icmp_ne (pc := 44) (tgt := 62) hC dX10_holeLine_44 (by decide) (fun _ => ?_) (fun _ => ?_)
    · skip
      refine aw_aload_n (pc := 47) (i := 0) hC dX10_holeLine_47 rfl rfl ?_
      refine aw_get (pc := 48) hC inX10 (v0 (j := 12) (by decide)) rfl rfl 1 (by decide) kw1315 rfl rfl dX10_holeLine_48 ?_
      refine aw_bipush (pc := 51) (v := 16) hC dX10_holeLine_51 bc16 ?_
      refine aw_iload_n (pc := 53) (i := 1) hC dX10_holeLine_53 rfl rfl ?_
      refine aw_iadd (pc := 54) hC dX10_holeLine_54 ?_
      refine aw_dup2 (pc := 55) hC dX10_holeLine_55 rfl rfl ?_
      refine aw_iaload (pc := 56) hC (v0 (j := 13) (by decide)) rfl dX10_holeLine_56 ?_
      refine aw_iconst (pc := 57) (v := 1) hC dX10_holeLine_57 ic1 ?_
      refine aw_iload_n (pc := 58) (i := 3) hC dX10_holeLine_58 rfl rfl ?_
      refine aw_ishl (pc := 59) hC dX10_holeLine_59 ?_
      refine aw_ior (pc := 60) hC dX10_holeLine_60 ?_
      refine aw_iastoreN (pc := 61) hC (v0 (j := 13) (by decide)) (fun _ => rfl) dX10_holeLine_61 (fun μ5 => ?_)
      exact aw_vret hC dX10_holeLine_62
    · skip
      exact aw_vret hC dX10_holeLine_62
  · skip
    refine aw_icmp_ne (pc := 26) (tgt := 39) hC dX10_holeLine_26 (by decide) (fun _ => ?_) (fun _ => ?_)
    · skip
      refine aw_iload_n (pc := 29) (i := 3) hC dX10_holeLine_29 rfl rfl ?_
      refine aw_iload_n (pc := 30) (i := 1) hC dX10_holeLine_30 rfl rfl ?_
      refine aw_icmp_ne (pc := 31) (tgt := 39) hC dX10_holeLine_31 (by decide) (fun _ => ?_) (fun _ => ?_)
      · skip
        refine aw_aload_n (pc := 34) (i := 0) hC dX10_holeLine_34 rfl rfl ?_
        refine aw_iload_n (pc := 35) (i := 2) hC dX10_holeLine_35 rfl rfl ?_
        refine aw_callVV (pc := 36) (As := [.int q2.1]) hC mb_X10_wrong kw1421 (by decide) (c_X10_wrong G C.2.1   q3.2 q2.1) (v0 (j := 12) (by decide)) rfl rfl rfl (Nat.le_of_ble_eq_true rfl) dX10_holeLine_36 (fun q6 => ?_)
        exact aw_drop [2] (hJ39 q6)
      · skip
        exact aw_drop [2] (hJ39 q3.2)
    · skip
      exact aw_drop [2] (hJ39 q3.2)
theorem dX10_tells_0 : decode cX10_tells 0 = .ok (.aload_n 0, 1) := by decide +kernel
theorem dX10_tells_1 : decode cX10_tells 1 = .ok (.iconst 0, 1) := by decide +kernel
theorem dX10_tells_2 : decode cX10_tells 2 = .ok (.iload_n 2, 1) := by decide +kernel
theorem dX10_tells_3 : decode cX10_tells 3 = .ok (.invokevirtual 100, 3) := by decide +kernel
theorem dX10_tells_6 : decode cX10_tells 6 = .ok (.istore_n 3, 1) := by decide +kernel
theorem dX10_tells_7 : decode cX10_tells 7 = .ok (.aload_n 0, 1) := by decide +kernel
theorem dX10_tells_8 : decode cX10_tells 8 = .ok (.getfield 25, 3) := by decide +kernel
theorem dX10_tells_11 : decode cX10_tells 11 = .ok (.iconst (-1), 1) := by decide +kernel
theorem dX10_tells_12 : decode cX10_tells 12 = .ok (.if_icmp .ne 10, 3) := by decide +kernel
theorem dX10_tells_15 : decode cX10_tells 15 = .ok (.aload_n 0, 1) := by decide +kernel
theorem dX10_tells_16 : decode cX10_tells 16 = .ok (.getfield 7, 3) := by decide +kernel
theorem dX10_tells_19 : decode cX10_tells 19 = .ok (.iload_n 1, 1) := by decide +kernel
theorem dX10_tells_20 : decode cX10_tells 20 = .ok (.iload_n 3, 1) := by decide +kernel
theorem dX10_tells_21 : decode cX10_tells 21 = .ok (.iastore, 1) := by decide +kernel
theorem dX10_tells_22 : decode cX10_tells 22 = .ok (.return_, 1) := by decide +kernel
def f_X10_tells (μ : Mem) (a1 : Int32) (a2 : Int32) : Option (Mem) := (f_X10_figures μ 0 a2).bind fun (q1 : Int32 × Mem) => if (q1.2 0 12 12) = (-1) then (ix a1 704 (nm (upm q1.2 0 13 a1.toNatClampNeg q1.1) fun (μ2 : Mem) => some μ2)) else (some q1.2)
set_option maxHeartbeats 4000000 in
set_option maxRecDepth 100000 in
theorem c_X10_tells (G : GG) (l : Launch) (μ : Mem) (a1 : Int32) (a2 : Int32) : CV G l yX10_tells (.code yX10_tells cX10_tells 4 none) 5 [.ref (gad G 0 12), .int a1, .int a2] μ (f_X10_tells μ a1 a2) := by
  refine CV.of (own := "SaturdayKeepModel") (L0 := [some (.ref (gad G 0 12)), some (.int a1), some (.int a2), none]) rfl rfl rfl (Nat.le_of_ble_eq_true rfl) (fun C hl hC => ?_)
  subst hl
  delta f_X10_tells
  refine aw_aload_n (pc := 0) (i := 0) hC dX10_tells_0 rfl rfl ?_
  refine aw_iconst (pc := 1) (v := 0) hC dX10_tells_1 ic0 ?_
  refine aw_iload_n (pc := 2) (i := 2) hC dX10_tells_2 rfl rfl ?_
  refine aw_callVI (pc := 3) (As := [.int 0, .int a2]) hC mb_X10_figures kw1437 (by decide) (c_X10_figures G C.2.1   μ 0 a2) (v0 (j := 12) (by decide)) rfl rfl rfl (Nat.le_of_ble_eq_true rfl) dX10_tells_3 (fun q1 => ?_)
  refine aw_istore_n (pc := 6) (i := 3) hC dX10_tells_6 rfl rfl (by decide) ?_
  refine aw_aload_n (pc := 7) (i := 0) hC dX10_tells_7 rfl rfl ?_
  refine aw_get (pc := 8) hC inX10 (v0 (j := 12) (by decide)) rfl rfl 12 (by decide) kw1326 rfl rfl dX10_tells_8 ?_
  refine aw_iconst (pc := 11) (v := (-1)) hC dX10_tells_11 icm1 ?_
  refine aw_icmp_ne (pc := 12) (tgt := 22) hC dX10_tells_12 (by decide) (fun _ => ?_) (fun _ => ?_)
  · skip
    refine aw_aload_n (pc := 15) (i := 0) hC dX10_tells_15 rfl rfl ?_
    refine aw_get (pc := 16) hC inX10 (v0 (j := 12) (by decide)) rfl rfl 1 (by decide) kw1315 rfl rfl dX10_tells_16 ?_
    refine aw_iload_n (pc := 19) (i := 1) hC dX10_tells_19 rfl rfl ?_
    refine aw_iload_n (pc := 20) (i := 3) hC dX10_tells_20 rfl rfl ?_
    refine aw_iastoreN (pc := 21) hC (v0 (j := 13) (by decide)) (fun _ => rfl) dX10_tells_21 (fun μ2 => ?_)
    exact aw_vret hC dX10_tells_22
  · skip
    exact aw_vret hC dX10_tells_22
theorem dX10_houseLine_0 : decode cX10_houseLine 0 = .ok (.aload_n 0, 1) := by decide +kernel
theorem dX10_houseLine_1 : decode cX10_houseLine 1 = .ok (.invokevirtual 89, 3) := by decide +kernel
theorem dX10_houseLine_4 : decode cX10_houseLine 4 = .ok (.istore_n 1, 1) := by decide +kernel
theorem dX10_houseLine_5 : decode cX10_houseLine 5 = .ok (.aload_n 0, 1) := by decide +kernel
theorem dX10_houseLine_6 : decode cX10_houseLine 6 = .ok (.ldc 118, 2) := by decide +kernel
theorem dX10_houseLine_8 : decode cX10_houseLine 8 = .ok (.invokevirtual 96, 3) := by decide +kernel
theorem dX10_houseLine_11 : decode cX10_houseLine 11 = .ok (.ifCond .eq 11, 3) := by decide +kernel
theorem dX10_houseLine_14 : decode cX10_houseLine 14 = .ok (.aload_n 0, 1) := by decide +kernel
theorem dX10_houseLine_15 : decode cX10_houseLine 15 = .ok (.iload_n 1, 1) := by decide +kernel
theorem dX10_houseLine_16 : decode cX10_houseLine 16 = .ok (.invokevirtual 120, 3) := by decide +kernel
theorem dX10_houseLine_19 : decode cX10_houseLine 19 = .ok (.goto 183, 3) := by decide +kernel
theorem dX10_houseLine_22 : decode cX10_houseLine 22 = .ok (.aload_n 0, 1) := by decide +kernel
theorem dX10_houseLine_23 : decode cX10_houseLine 23 = .ok (.ldc 123, 2) := by decide +kernel
theorem dX10_houseLine_25 : decode cX10_houseLine 25 = .ok (.invokevirtual 96, 3) := by decide +kernel
theorem dX10_houseLine_28 : decode cX10_houseLine 28 = .ok (.ifCond .eq 10, 3) := by decide +kernel
theorem dX10_houseLine_31 : decode cX10_houseLine 31 = .ok (.aload_n 0, 1) := by decide +kernel
theorem dX10_houseLine_32 : decode cX10_houseLine 32 = .ok (.invokevirtual 125, 3) := by decide +kernel
theorem dX10_houseLine_35 : decode cX10_houseLine 35 = .ok (.goto 167, 3) := by decide +kernel
theorem dX10_houseLine_38 : decode cX10_houseLine 38 = .ok (.aload_n 0, 1) := by decide +kernel
theorem dX10_houseLine_39 : decode cX10_houseLine 39 = .ok (.ldc 128, 2) := by decide +kernel
theorem dX10_houseLine_41 : decode cX10_houseLine 41 = .ok (.invokevirtual 96, 3) := by decide +kernel
theorem dX10_houseLine_44 : decode cX10_houseLine 44 = .ok (.ifCond .eq 13, 3) := by decide +kernel
theorem dX10_houseLine_47 : decode cX10_houseLine 47 = .ok (.aload_n 0, 1) := by decide +kernel
theorem dX10_houseLine_48 : decode cX10_houseLine 48 = .ok (.iconst 4, 1) := by decide +kernel
theorem dX10_houseLine_49 : decode cX10_houseLine 49 = .ok (.bipush 7, 2) := by decide +kernel
theorem dX10_houseLine_51 : decode cX10_houseLine 51 = .ok (.invokevirtual 130, 3) := by decide +kernel
theorem dX10_houseLine_54 : decode cX10_houseLine 54 = .ok (.goto 148, 3) := by decide +kernel
theorem dX10_houseLine_57 : decode cX10_houseLine 57 = .ok (.aload_n 0, 1) := by decide +kernel
theorem dX10_houseLine_58 : decode cX10_houseLine 58 = .ok (.ldc 134, 2) := by decide +kernel
theorem dX10_houseLine_60 : decode cX10_houseLine 60 = .ok (.invokevirtual 96, 3) := by decide +kernel
theorem dX10_houseLine_63 : decode cX10_houseLine 63 = .ok (.ifCond .eq 31, 3) := by decide +kernel
theorem dX10_houseLine_66 : decode cX10_houseLine 66 = .ok (.aload_n 0, 1) := by decide +kernel
theorem dX10_houseLine_67 : decode cX10_houseLine 67 = .ok (.iconst 0, 1) := by decide +kernel
theorem dX10_houseLine_68 : decode cX10_houseLine 68 = .ok (.iconst 1, 1) := by decide +kernel
theorem dX10_houseLine_69 : decode cX10_houseLine 69 = .ok (.invokevirtual 100, 3) := by decide +kernel
theorem dX10_houseLine_72 : decode cX10_houseLine 72 = .ok (.istore_n 2, 1) := by decide +kernel
theorem dX10_houseLine_73 : decode cX10_houseLine 73 = .ok (.aload_n 0, 1) := by decide +kernel
theorem dX10_houseLine_74 : decode cX10_houseLine 74 = .ok (.getfield 25, 3) := by decide +kernel
theorem dX10_houseLine_77 : decode cX10_houseLine 77 = .ok (.iconst (-1), 1) := by decide +kernel
theorem dX10_houseLine_78 : decode cX10_houseLine 78 = .ok (.if_icmp .ne 13, 3) := by decide +kernel
theorem dX10_houseLine_81 : decode cX10_houseLine 81 = .ok (.aload_n 0, 1) := by decide +kernel
theorem dX10_houseLine_82 : decode cX10_houseLine 82 = .ok (.bipush 12, 2) := by decide +kernel
theorem dX10_houseLine_84 : decode cX10_houseLine 84 = .ok (.iload_n 2, 1) := by decide +kernel
theorem dX10_houseLine_85 : decode cX10_houseLine 85 = .ok (.iadd, 1) := by decide +kernel
theorem dX10_houseLine_86 : decode cX10_houseLine 86 = .ok (.bipush 6, 2) := by decide +kernel
theorem dX10_houseLine_88 : decode cX10_houseLine 88 = .ok (.invokevirtual 130, 3) := by decide +kernel
theorem dX10_houseLine_91 : decode cX10_houseLine 91 = .ok (.goto 111, 3) := by decide +kernel
theorem dX10_houseLine_94 : decode cX10_houseLine 94 = .ok (.aload_n 0, 1) := by decide +kernel
theorem dX10_houseLine_95 : decode cX10_houseLine 95 = .ok (.ldc 136, 2) := by decide +kernel
theorem dX10_houseLine_97 : decode cX10_houseLine 97 = .ok (.invokevirtual 96, 3) := by decide +kernel
theorem dX10_houseLine_100 : decode cX10_houseLine 100 = .ok (.ifCond .eq 12, 3) := by decide +kernel
theorem dX10_houseLine_103 : decode cX10_houseLine 103 = .ok (.aload_n 0, 1) := by decide +kernel
theorem dX10_houseLine_104 : decode cX10_houseLine 104 = .ok (.iconst 5, 1) := by decide +kernel
theorem dX10_houseLine_105 : decode cX10_houseLine 105 = .ok (.iconst 1, 1) := by decide +kernel
theorem dX10_houseLine_106 : decode cX10_houseLine 106 = .ok (.invokevirtual 130, 3) := by decide +kernel
theorem dX10_houseLine_109 : decode cX10_houseLine 109 = .ok (.goto 93, 3) := by decide +kernel
theorem dX10_houseLine_112 : decode cX10_houseLine 112 = .ok (.aload_n 0, 1) := by decide +kernel
theorem dX10_houseLine_113 : decode cX10_houseLine 113 = .ok (.ldc 138, 2) := by decide +kernel
theorem dX10_houseLine_115 : decode cX10_houseLine 115 = .ok (.invokevirtual 96, 3) := by decide +kernel
theorem dX10_houseLine_118 : decode cX10_houseLine 118 = .ok (.ifCond .eq 14, 3) := by decide +kernel
theorem dX10_houseLine_121 : decode cX10_houseLine 121 = .ok (.aload_n 0, 1) := by decide +kernel
theorem dX10_houseLine_122 : decode cX10_houseLine 122 = .ok (.bipush 6, 2) := by decide +kernel
theorem dX10_houseLine_124 : decode cX10_houseLine 124 = .ok (.bipush 9, 2) := by decide +kernel
theorem dX10_houseLine_126 : decode cX10_houseLine 126 = .ok (.invokevirtual 130, 3) := by decide +kernel
theorem dX10_houseLine_129 : decode cX10_houseLine 129 = .ok (.goto 73, 3) := by decide +kernel
theorem dX10_houseLine_132 : decode cX10_houseLine 132 = .ok (.aload_n 0, 1) := by decide +kernel
theorem dX10_houseLine_133 : decode cX10_houseLine 133 = .ok (.ldc 140, 2) := by decide +kernel
theorem dX10_houseLine_135 : decode cX10_houseLine 135 = .ok (.invokevirtual 96, 3) := by decide +kernel
theorem dX10_houseLine_138 : decode cX10_houseLine 138 = .ok (.ifCond .eq 15, 3) := by decide +kernel
theorem dX10_houseLine_141 : decode cX10_houseLine 141 = .ok (.aload_n 0, 1) := by decide +kernel
theorem dX10_houseLine_142 : decode cX10_houseLine 142 = .ok (.bipush 7, 2) := by decide +kernel
theorem dX10_houseLine_144 : decode cX10_houseLine 144 = .ok (.sipush 999, 3) := by decide +kernel
theorem dX10_houseLine_147 : decode cX10_houseLine 147 = .ok (.invokevirtual 130, 3) := by decide +kernel
theorem dX10_houseLine_150 : decode cX10_houseLine 150 = .ok (.goto 52, 3) := by decide +kernel
theorem dX10_houseLine_153 : decode cX10_houseLine 153 = .ok (.aload_n 0, 1) := by decide +kernel
theorem dX10_houseLine_154 : decode cX10_houseLine 154 = .ok (.ldc 142, 2) := by decide +kernel
theorem dX10_houseLine_156 : decode cX10_houseLine 156 = .ok (.invokevirtual 96, 3) := by decide +kernel
theorem dX10_houseLine_159 : decode cX10_houseLine 159 = .ok (.ifCond .eq 14, 3) := by decide +kernel
theorem dX10_houseLine_162 : decode cX10_houseLine 162 = .ok (.aload_n 0, 1) := by decide +kernel
theorem dX10_houseLine_163 : decode cX10_houseLine 163 = .ok (.bipush 9, 2) := by decide +kernel
theorem dX10_houseLine_165 : decode cX10_houseLine 165 = .ok (.bipush 100, 2) := by decide +kernel
theorem dX10_houseLine_167 : decode cX10_houseLine 167 = .ok (.invokevirtual 130, 3) := by decide +kernel
theorem dX10_houseLine_170 : decode cX10_houseLine 170 = .ok (.goto 32, 3) := by decide +kernel
theorem dX10_houseLine_173 : decode cX10_houseLine 173 = .ok (.aload_n 0, 1) := by decide +kernel
theorem dX10_houseLine_174 : decode cX10_houseLine 174 = .ok (.ldc 144, 2) := by decide +kernel
theorem dX10_houseLine_176 : decode cX10_houseLine 176 = .ok (.invokevirtual 96, 3) := by decide +kernel
theorem dX10_houseLine_179 : decode cX10_houseLine 179 = .ok (.ifCond .eq 15, 3) := by decide +kernel
theorem dX10_houseLine_182 : decode cX10_houseLine 182 = .ok (.aload_n 0, 1) := by decide +kernel
theorem dX10_houseLine_183 : decode cX10_houseLine 183 = .ok (.bipush 10, 2) := by decide +kernel
theorem dX10_houseLine_185 : decode cX10_houseLine 185 = .ok (.sipush 999, 3) := by decide +kernel
theorem dX10_houseLine_188 : decode cX10_houseLine 188 = .ok (.invokevirtual 130, 3) := by decide +kernel
theorem dX10_houseLine_191 : decode cX10_houseLine 191 = .ok (.goto 11, 3) := by decide +kernel
theorem dX10_houseLine_194 : decode cX10_houseLine 194 = .ok (.aload_n 0, 1) := by decide +kernel
theorem dX10_houseLine_195 : decode cX10_houseLine 195 = .ok (.aload_n 0, 1) := by decide +kernel
theorem dX10_houseLine_196 : decode cX10_houseLine 196 = .ok (.getfield 67, 3) := by decide +kernel
theorem dX10_houseLine_199 : decode cX10_houseLine 199 = .ok (.invokevirtual 92, 3) := by decide +kernel
theorem dX10_houseLine_202 : decode cX10_houseLine 202 = .ok (.return_, 1) := by decide +kernel
def f_X10_houseLine (μ : Mem) : Option (Mem) := (f_X10_place μ).bind fun (q1 : Int32 × Mem) => (f_X10_has 50 q1.2).bind fun (q2 : Int32 × Mem) => if q2.1 = 0 then ((f_X10_has 60 q2.2).bind fun (q3 : Int32 × Mem) => if q3.1 = 0 then ((f_X10_has 61 q3.2).bind fun (q4 : Int32 × Mem) => if q4.1 = 0 then ((f_X10_has 62 q4.2).bind fun (q5 : Int32 × Mem) => if q5.1 = 0 then ((f_X10_has 63 q5.2).bind fun (q6 : Int32 × Mem) => if q6.1 = 0 then ((f_X10_has 64 q6.2).bind fun (q7 : Int32 × Mem) => if q7.1 = 0 then ((f_X10_has 65 q7.2).bind fun (q8 : Int32 × Mem) => if q8.1 = 0 then ((f_X10_has 66 q8.2).bind fun (q9 : Int32 × Mem) => if q9.1 = 0 then ((f_X10_has 67 q9.2).bind fun (q10 : Int32 × Mem) => if q10.1 = 0 then ((f_X10_wrong q10.2 (q10.2 0 12 11)).bind fun (q11 : Mem) => some q11) else ((f_X10_tells q10.2 10 999).bind fun (q12 : Mem) => some q12)) else ((f_X10_tells q9.2 9 100).bind fun (q13 : Mem) => some q13)) else ((f_X10_tells q8.2 7 999).bind fun (q14 : Mem) => some q14)) else ((f_X10_tells q7.2 6 9).bind fun (q15 : Mem) => some q15)) else ((f_X10_tells q6.2 5 1).bind fun (q16 : Mem) => some q16)) else ((f_X10_figures q5.2 0 1).bind fun (q17 : Int32 × Mem) => if (q17.2 0 12 12) = (-1) then ((f_X10_tells q17.2 (12 + q17.1) 6).bind fun (q18 : Mem) => some q18) else (some q17.2))) else ((f_X10_tells q4.2 4 7).bind fun (q19 : Mem) => some q19)) else ((f_X10_holeLine q3.2).bind fun (q20 : Mem) => some q20)) else ((f_X10_guestLine q2.2 q1.1).bind fun (q21 : Mem) => some q21)
set_option maxHeartbeats 4000000 in
set_option maxRecDepth 100000 in
theorem c_X10_houseLine (G : GG) (l : Launch) (μ : Mem) : CV G l yX10_houseLine (.code yX10_houseLine cX10_houseLine 3 none) 13 [.ref (gad G 0 12)] μ (f_X10_houseLine μ) := by
  refine CV.of (own := "SaturdayKeepModel") (L0 := [some (.ref (gad G 0 12)), none, none]) rfl rfl rfl (Nat.le_of_ble_eq_true rfl) (fun C hl hC => ?_)
  subst hl
  delta f_X10_houseLine
  refine aw_aload_n (pc := 0) (i := 0) hC dX10_houseLine_0 rfl rfl ?_
  refine aw_callVI (pc := 1) (As := []) hC mb_X10_place kw1441 (by decide) (c_X10_place G C.2.1   μ ) (v0 (j := 12) (by decide)) rfl rfl rfl (Nat.le_of_ble_eq_true rfl) dX10_houseLine_1 (fun q1 => ?_)
  refine aw_istore_n (pc := 4) (i := 1) hC dX10_houseLine_4 rfl rfl (by decide) ?_
  refine aw_aload_n (pc := 5) (i := 0) hC dX10_houseLine_5 rfl rfl ?_
  refine aw_ldcS (pc := 6) (i := 50) hC rfl dX10_houseLine_6 ?_
  refine aw_callVI (pc := 8) (As := [.ref (gsK G 50)]) hC mb_X10_has kw1430 (by decide) (c_X10_has G C.2.1 50 (by decide) q1.2 ) (v0 (j := 12) (by decide)) rfl rfl rfl (Nat.le_of_ble_eq_true rfl) dX10_houseLine_8 (fun q2 => ?_)
  refine aw_if_eq (pc := 11) (tgt := 22) hC dX10_houseLine_11 (by decide) (fun _ => ?_) (fun _ => ?_)
  · skip
    refine aw_aload_n (pc := 22) (i := 0) hC dX10_houseLine_22 rfl rfl ?_
    refine aw_ldcS (pc := 23) (i := 60) hC rfl dX10_houseLine_23 ?_
    refine aw_callVI (pc := 25) (As := [.ref (gsK G 60)]) hC mb_X10_has kw1430 (by decide) (c_X10_has G C.2.1 60 (by decide) q2.2 ) (v0 (j := 12) (by decide)) rfl rfl rfl (Nat.le_of_ble_eq_true rfl) dX10_houseLine_25 (fun q3 => ?_)
    refine aw_if_eq (pc := 28) (tgt := 38) hC dX10_houseLine_28 (by decide) (fun _ => ?_) (fun _ => ?_)
    · skip
      refine aw_aload_n (pc := 38) (i := 0) hC dX10_houseLine_38 rfl rfl ?_
      refine aw_ldcS (pc := 39) (i := 61) hC rfl dX10_houseLine_39 ?_
      refine aw_callVI (pc := 41) (As := [.ref (gsK G 61)]) hC mb_X10_has kw1430 (by decide) (c_X10_has G C.2.1 61 (by decide) q3.2 ) (v0 (j := 12) (by decide)) rfl rfl rfl (Nat.le_of_ble_eq_true rfl) dX10_houseLine_41 (fun q4 => ?_)
      refine aw_if_eq (pc := 44) (tgt := 57) hC dX10_houseLine_44 (by decide) (fun _ => ?_) (fun _ => ?_)
      · skip
        refine aw_aload_n (pc := 57) (i := 0) hC dX10_houseLine_57 rfl rfl ?_
        refine aw_ldcS (pc := 58) (i := 62) hC rfl dX10_houseLine_58 ?_
        refine aw_callVI (pc := 60) (As := [.ref (gsK G 62)]) hC mb_X10_has kw1430 (by decide) (c_X10_has G C.2.1 62 (by decide) q4.2 ) (v0 (j := 12) (by decide)) rfl rfl rfl (Nat.le_of_ble_eq_true rfl) dX10_houseLine_60 (fun q5 => ?_)
        refine aw_if_eq (pc := 63) (tgt := 94) hC dX10_houseLine_63 (by decide) (fun _ => ?_) (fun _ => ?_)
        · skip
          refine aw_aload_n (pc := 94) (i := 0) hC dX10_houseLine_94 rfl rfl ?_
          refine aw_ldcS (pc := 95) (i := 63) hC rfl dX10_houseLine_95 ?_
          refine aw_callVI (pc := 97) (As := [.ref (gsK G 63)]) hC mb_X10_has kw1430 (by decide) (c_X10_has G C.2.1 63 (by decide) q5.2 ) (v0 (j := 12) (by decide)) rfl rfl rfl (Nat.le_of_ble_eq_true rfl) dX10_houseLine_97 (fun q6 => ?_)
          refine aw_if_eq (pc := 100) (tgt := 112) hC dX10_houseLine_100 (by decide) (fun _ => ?_) (fun _ => ?_)
          · skip
            refine aw_aload_n (pc := 112) (i := 0) hC dX10_houseLine_112 rfl rfl ?_
            refine aw_ldcS (pc := 113) (i := 64) hC rfl dX10_houseLine_113 ?_
            refine aw_callVI (pc := 115) (As := [.ref (gsK G 64)]) hC mb_X10_has kw1430 (by decide) (c_X10_has G C.2.1 64 (by decide) q6.2 ) (v0 (j := 12) (by decide)) rfl rfl rfl (Nat.le_of_ble_eq_true rfl) dX10_houseLine_115 (fun q7 => ?_)
            refine aw_if_eq (pc := 118) (tgt := 132) hC dX10_houseLine_118 (by decide) (fun _ => ?_) (fun _ => ?_)
            · skip
              refine aw_aload_n (pc := 132) (i := 0) hC dX10_houseLine_132 rfl rfl ?_
              refine aw_ldcS (pc := 133) (i := 65) hC rfl dX10_houseLine_133 ?_
              refine aw_callVI (pc := 135) (As := [.ref (gsK G 65)]) hC mb_X10_has kw1430 (by decide) (c_X10_has G C.2.1 65 (by decide) q7.2 ) (v0 (j := 12) (by decide)) rfl rfl rfl (Nat.le_of_ble_eq_true rfl) dX10_houseLine_135 (fun q8 => ?_)
              refine aw_if_eq (pc := 138) (tgt := 153) hC dX10_houseLine_138 (by decide) (fun _ => ?_) (fun _ => ?_)
              · skip
                refine aw_aload_n (pc := 153) (i := 0) hC dX10_houseLine_153 rfl rfl ?_
                refine aw_ldcS (pc := 154) (i := 66) hC rfl dX10_houseLine_154 ?_
                refine aw_callVI (pc := 156) (As := [.ref (gsK G 66)]) hC mb_X10_has kw1430 (by decide) (c_X10_has G C.2.1 66 (by decide) q8.2 ) (v0 (j := 12) (by decide)) rfl rfl rfl (Nat.le_of_ble_eq_true rfl) dX10_houseLine_156 (fun q9 => ?_)
                refine aw_if_eq (pc := 159) (tgt := 173) hC dX10_houseLine_159 (by decide) (fun _ => ?_) (fun _ => ?_)
                · skip
                  refine aw_aload_n (pc := 173) (i := 0) hC dX10_houseLine_173 rfl rfl ?_
                  refine aw_ldcS (pc := 174) (i := 67) hC rfl dX10_houseLine_174 ?_
                  refine aw_callVI (pc := 176) (As := [.ref (gsK G 67)]) hC mb_X10_has kw1430 (by decide) (c_X10_has G C.2.1 67 (by decide) q9.2 ) (v0 (j := 12) (by decide)) rfl rfl rfl (Nat.le_of_ble_eq_true rfl) dX10_houseLine_176 (fun q10 => ?_)
                  refine aw_if_eq (pc := 179) (tgt := 194) hC dX10_houseLine_179 (by decide) (fun _ => ?_) (fun _ => ?_)
                  · skip
                    refine aw_aload_n (pc := 194) (i := 0) hC dX10_houseLine_194 rfl rfl ?_
                    refine aw_aload_n (pc := 195) (i := 0) hC dX10_houseLine_195 rfl rfl ?_
                    refine aw_get (pc := 196) hC inX10 (v0 (j := 12) (by decide)) rfl rfl 11 (by decide) kw1325 rfl rfl dX10_houseLine_196 ?_
                    refine aw_callVV (pc := 199) (As := [.int (q10.2 0 12 11)]) hC mb_X10_wrong kw1421 (by decide) (c_X10_wrong G C.2.1   q10.2 (q10.2 0 12 11)) (v0 (j := 12) (by decide)) rfl rfl rfl (Nat.le_of_ble_eq_true rfl) dX10_houseLine_199 (fun q11 => ?_)
                    exact aw_vret hC dX10_houseLine_202
                  · skip
                    refine aw_aload_n (pc := 182) (i := 0) hC dX10_houseLine_182 rfl rfl ?_
                    refine aw_bipush (pc := 183) (v := 10) hC dX10_houseLine_183 bc10 ?_
                    refine aw_sipush (pc := 185) (v := 999) hC dX10_houseLine_185 sc999 ?_
                    refine aw_callVV (pc := 188) (As := [.int 10, .int 999]) hC mb_X10_tells kw1509 (by decide) (c_X10_tells G C.2.1   q10.2 10 999) (v0 (j := 12) (by decide)) rfl rfl rfl (Nat.le_of_ble_eq_true rfl) dX10_houseLine_188 (fun q12 => ?_)
                    refine aw_goto (pc := 191) (tgt := 202) hC dX10_houseLine_191 (by decide) ?_
                    exact aw_vret hC dX10_houseLine_202
                · skip
                  refine aw_aload_n (pc := 162) (i := 0) hC dX10_houseLine_162 rfl rfl ?_
                  refine aw_bipush (pc := 163) (v := 9) hC dX10_houseLine_163 bc9 ?_
                  refine aw_bipush (pc := 165) (v := 100) hC dX10_houseLine_165 bc100 ?_
                  refine aw_callVV (pc := 167) (As := [.int 9, .int 100]) hC mb_X10_tells kw1509 (by decide) (c_X10_tells G C.2.1   q9.2 9 100) (v0 (j := 12) (by decide)) rfl rfl rfl (Nat.le_of_ble_eq_true rfl) dX10_houseLine_167 (fun q13 => ?_)
                  refine aw_goto (pc := 170) (tgt := 202) hC dX10_houseLine_170 (by decide) ?_
                  exact aw_vret hC dX10_houseLine_202
              · skip
                refine aw_aload_n (pc := 141) (i := 0) hC dX10_houseLine_141 rfl rfl ?_
                refine aw_bipush (pc := 142) (v := 7) hC dX10_houseLine_142 bc7 ?_
                refine aw_sipush (pc := 144) (v := 999) hC dX10_houseLine_144 sc999 ?_
                refine aw_callVV (pc := 147) (As := [.int 7, .int 999]) hC mb_X10_tells kw1509 (by decide) (c_X10_tells G C.2.1   q8.2 7 999) (v0 (j := 12) (by decide)) rfl rfl rfl (Nat.le_of_ble_eq_true rfl) dX10_houseLine_147 (fun q14 => ?_)
                refine aw_goto (pc := 150) (tgt := 202) hC dX10_houseLine_150 (by decide) ?_
                exact aw_vret hC dX10_houseLine_202
            · skip
              refine aw_aload_n (pc := 121) (i := 0) hC dX10_houseLine_121 rfl rfl ?_
              refine aw_bipush (pc := 122) (v := 6) hC dX10_houseLine_122 bc6 ?_
              refine aw_bipush (pc := 124) (v := 9) hC dX10_houseLine_124 bc9 ?_
              refine aw_callVV (pc := 126) (As := [.int 6, .int 9]) hC mb_X10_tells kw1509 (by decide) (c_X10_tells G C.2.1   q7.2 6 9) (v0 (j := 12) (by decide)) rfl rfl rfl (Nat.le_of_ble_eq_true rfl) dX10_houseLine_126 (fun q15 => ?_)
              refine aw_goto (pc := 129) (tgt := 202) hC dX10_houseLine_129 (by decide) ?_
              exact aw_vret hC dX10_houseLine_202
          · skip
            refine aw_aload_n (pc := 103) (i := 0) hC dX10_houseLine_103 rfl rfl ?_
            refine aw_iconst (pc := 104) (v := 5) hC dX10_houseLine_104 ic5 ?_
            refine aw_iconst (pc := 105) (v := 1) hC dX10_houseLine_105 ic1 ?_
            refine aw_callVV (pc := 106) (As := [.int 5, .int 1]) hC mb_X10_tells kw1509 (by decide) (c_X10_tells G C.2.1   q6.2 5 1) (v0 (j := 12) (by decide)) rfl rfl rfl (Nat.le_of_ble_eq_true rfl) dX10_houseLine_106 (fun q16 => ?_)
            refine aw_goto (pc := 109) (tgt := 202) hC dX10_houseLine_109 (by decide) ?_
            exact aw_vret hC dX10_houseLine_202
        · skip
          refine aw_aload_n (pc := 66) (i := 0) hC dX10_houseLine_66 rfl rfl ?_
          refine aw_iconst (pc := 67) (v := 0) hC dX10_houseLine_67 ic0 ?_
          refine aw_iconst (pc := 68) (v := 1) hC dX10_houseLine_68 ic1 ?_
          refine aw_callVI (pc := 69) (As := [.int 0, .int 1]) hC mb_X10_figures kw1437 (by decide) (c_X10_figures G C.2.1   q5.2 0 1) (v0 (j := 12) (by decide)) rfl rfl rfl (Nat.le_of_ble_eq_true rfl) dX10_houseLine_69 (fun q17 => ?_)
          refine aw_istore_n (pc := 72) (i := 2) hC dX10_houseLine_72 rfl rfl (by decide) ?_
          refine aw_aload_n (pc := 73) (i := 0) hC dX10_houseLine_73 rfl rfl ?_
          refine aw_get (pc := 74) hC inX10 (v0 (j := 12) (by decide)) rfl rfl 12 (by decide) kw1326 rfl rfl dX10_houseLine_74 ?_
          refine aw_iconst (pc := 77) (v := (-1)) hC dX10_houseLine_77 icm1 ?_
          refine aw_icmp_ne (pc := 78) (tgt := 91) hC dX10_houseLine_78 (by decide) (fun _ => ?_) (fun _ => ?_)
          · skip
            refine aw_aload_n (pc := 81) (i := 0) hC dX10_houseLine_81 rfl rfl ?_
            refine aw_bipush (pc := 82) (v := 12) hC dX10_houseLine_82 bc12 ?_
            refine aw_iload_n (pc := 84) (i := 2) hC dX10_houseLine_84 rfl rfl ?_
            refine aw_iadd (pc := 85) hC dX10_houseLine_85 ?_
            refine aw_bipush (pc := 86) (v := 6) hC dX10_houseLine_86 bc6 ?_
            refine aw_callVV (pc := 88) (As := [.int (12 + q17.1), .int 6]) hC mb_X10_tells kw1509 (by decide) (c_X10_tells G C.2.1   q17.2 (12 + q17.1) 6) (v0 (j := 12) (by decide)) rfl rfl rfl (Nat.le_of_ble_eq_true rfl) dX10_houseLine_88 (fun q18 => ?_)
            refine aw_goto (pc := 91) (tgt := 202) hC dX10_houseLine_91 (by decide) ?_
            exact aw_vret hC dX10_houseLine_202
          · skip
            refine aw_goto (pc := 91) (tgt := 202) hC dX10_houseLine_91 (by decide) ?_
            exact aw_vret hC dX10_houseLine_202
      · skip
        refine aw_aload_n (pc := 47) (i := 0) hC dX10_houseLine_47 rfl rfl ?_
        refine aw_iconst (pc := 48) (v := 4) hC dX10_houseLine_48 ic4 ?_
        refine aw_bipush (pc := 49) (v := 7) hC dX10_houseLine_49 bc7 ?_
        refine aw_callVV (pc := 51) (As := [.int 4, .int 7]) hC mb_X10_tells kw1509 (by decide) (c_X10_tells G C.2.1   q4.2 4 7) (v0 (j := 12) (by decide)) rfl rfl rfl (Nat.le_of_ble_eq_true rfl) dX10_houseLine_51 (fun q19 => ?_)
        refine aw_goto (pc := 54) (tgt := 202) hC dX10_houseLine_54 (by decide) ?_
        exact aw_vret hC dX10_houseLine_202
    · skip
      refine aw_aload_n (pc := 31) (i := 0) hC dX10_houseLine_31 rfl rfl ?_
      refine aw_callVV (pc := 32) (As := []) hC mb_X10_holeLine kw1504 (by decide) (c_X10_holeLine G C.2.1   q3.2 ) (v0 (j := 12) (by decide)) rfl rfl rfl (Nat.le_of_ble_eq_true rfl) dX10_houseLine_32 (fun q20 => ?_)
      refine aw_goto (pc := 35) (tgt := 202) hC dX10_houseLine_35 (by decide) ?_
      exact aw_vret hC dX10_houseLine_202
  · skip
    refine aw_aload_n (pc := 14) (i := 0) hC dX10_houseLine_14 rfl rfl ?_
    refine aw_iload_n (pc := 15) (i := 1) hC dX10_houseLine_15 rfl rfl ?_
    refine aw_callVV (pc := 16) (As := [.int q1.1]) hC mb_X10_guestLine kw1490 (by decide) (c_X10_guestLine G C.2.1   q2.2 q1.1) (v0 (j := 12) (by decide)) rfl rfl rfl (Nat.le_of_ble_eq_true rfl) dX10_houseLine_16 (fun q21 => ?_)
    refine aw_goto (pc := 19) (tgt := 202) hC dX10_houseLine_19 (by decide) ?_
    exact aw_vret hC dX10_houseLine_202
theorem dX10_read_0 : decode cX10_read 0 = .ok (.aload_n 0, 1) := by decide +kernel
theorem dX10_read_1 : decode cX10_read 1 = .ok (.invokevirtual 76, 3) := by decide +kernel
theorem dX10_read_4 : decode cX10_read 4 = .ok (.aload_n 0, 1) := by decide +kernel
theorem dX10_read_5 : decode cX10_read 5 = .ok (.getfield 67, 3) := by decide +kernel
theorem dX10_read_8 : decode cX10_read 8 = .ok (.aload_n 0, 1) := by decide +kernel
theorem dX10_read_9 : decode cX10_read 9 = .ok (.getfield 70, 3) := by decide +kernel
theorem dX10_read_12 : decode cX10_read 12 = .ok (.if_icmp .ge 7, 3) := by decide +kernel
theorem dX10_read_15 : decode cX10_read 15 = .ok (.iconst 1, 1) := by decide +kernel
theorem dX10_read_16 : decode cX10_read 16 = .ok (.goto 4, 3) := by decide +kernel
theorem dX10_read_19 : decode cX10_read 19 = .ok (.iconst 0, 1) := by decide +kernel
theorem dX10_read_20 : decode cX10_read 20 = .ok (.istore_n 2, 1) := by decide +kernel
theorem dX10_read_21 : decode cX10_read 21 = .ok (.iconst 0, 1) := by decide +kernel
theorem dX10_read_22 : decode cX10_read 22 = .ok (.istore_n 3, 1) := by decide +kernel
theorem dX10_read_23 : decode cX10_read 23 = .ok (.iload_n 2, 1) := by decide +kernel
theorem dX10_read_24 : decode cX10_read 24 = .ok (.ifCond .eq 120, 3) := by decide +kernel
theorem dX10_read_27 : decode cX10_read 27 = .ok (.aload_n 0, 1) := by decide +kernel
theorem dX10_read_28 : decode cX10_read 28 = .ok (.getfield 25, 3) := by decide +kernel
theorem dX10_read_31 : decode cX10_read 31 = .ok (.iconst (-1), 1) := by decide +kernel
theorem dX10_read_32 : decode cX10_read 32 = .ok (.if_icmp .ne 112, 3) := by decide +kernel
theorem dX10_read_35 : decode cX10_read 35 = .ok (.aload_n 0, 1) := by decide +kernel
theorem dX10_read_36 : decode cX10_read 36 = .ok (.invokevirtual 76, 3) := by decide +kernel
theorem dX10_read_39 : decode cX10_read 39 = .ok (.iload_n 3, 1) := by decide +kernel
theorem dX10_read_40 : decode cX10_read 40 = .ok (.iload_n 1, 1) := by decide +kernel
theorem dX10_read_41 : decode cX10_read 41 = .ok (.ifCond .eq 8, 3) := by decide +kernel
theorem dX10_read_44 : decode cX10_read 44 = .ok (.bipush 12, 2) := by decide +kernel
theorem dX10_read_46 : decode cX10_read 46 = .ok (.goto 5, 3) := by decide +kernel
theorem dX10_read_49 : decode cX10_read 49 = .ok (.bipush 14, 2) := by decide +kernel
theorem dX10_read_51 : decode cX10_read 51 = .ok (.if_icmp .ne 14, 3) := by decide +kernel
theorem dX10_read_54 : decode cX10_read 54 = .ok (.aload_n 0, 1) := by decide +kernel
theorem dX10_read_55 : decode cX10_read 55 = .ok (.aload_n 0, 1) := by decide +kernel
theorem dX10_read_56 : decode cX10_read 56 = .ok (.getfield 67, 3) := by decide +kernel
theorem dX10_read_59 : decode cX10_read 59 = .ok (.invokevirtual 92, 3) := by decide +kernel
theorem dX10_read_62 : decode cX10_read 62 = .ok (.goto 18, 3) := by decide +kernel
theorem dX10_read_65 : decode cX10_read 65 = .ok (.iload_n 1, 1) := by decide +kernel
theorem dX10_read_66 : decode cX10_read 66 = .ok (.ifCond .eq 10, 3) := by decide +kernel
theorem dX10_read_69 : decode cX10_read 69 = .ok (.aload_n 0, 1) := by decide +kernel
theorem dX10_read_70 : decode cX10_read 70 = .ok (.invokevirtual 149, 3) := by decide +kernel
theorem dX10_read_73 : decode cX10_read 73 = .ok (.goto 7, 3) := by decide +kernel
theorem dX10_read_76 : decode cX10_read 76 = .ok (.aload_n 0, 1) := by decide +kernel
theorem dX10_read_77 : decode cX10_read 77 = .ok (.invokevirtual 152, 3) := by decide +kernel
theorem dX10_read_80 : decode cX10_read 80 = .ok (.iinc 3 1, 3) := by decide +kernel
theorem dX10_read_83 : decode cX10_read 83 = .ok (.aload_n 0, 1) := by decide +kernel
theorem dX10_read_84 : decode cX10_read 84 = .ok (.invokevirtual 76, 3) := by decide +kernel
theorem dX10_read_87 : decode cX10_read 87 = .ok (.aload_n 0, 1) := by decide +kernel
theorem dX10_read_88 : decode cX10_read 88 = .ok (.getfield 25, 3) := by decide +kernel
theorem dX10_read_91 : decode cX10_read 91 = .ok (.iconst (-1), 1) := by decide +kernel
theorem dX10_read_92 : decode cX10_read 92 = .ok (.if_icmp .ne 14, 3) := by decide +kernel
theorem dX10_read_95 : decode cX10_read 95 = .ok (.aload_n 0, 1) := by decide +kernel
theorem dX10_read_96 : decode cX10_read 96 = .ok (.getfield 67, 3) := by decide +kernel
theorem dX10_read_99 : decode cX10_read 99 = .ok (.aload_n 0, 1) := by decide +kernel
theorem dX10_read_100 : decode cX10_read 100 = .ok (.getfield 70, 3) := by decide +kernel
theorem dX10_read_103 : decode cX10_read 103 = .ok (.if_icmp .ne 8, 3) := by decide +kernel
theorem dX10_read_106 : decode cX10_read 106 = .ok (.iconst 0, 1) := by decide +kernel
theorem dX10_read_107 : decode cX10_read 107 = .ok (.istore_n 2, 1) := by decide +kernel
theorem dX10_read_108 : decode cX10_read 108 = .ok (.goto (-85), 3) := by decide +kernel
theorem dX10_read_111 : decode cX10_read 111 = .ok (.aload_n 0, 1) := by decide +kernel
theorem dX10_read_112 : decode cX10_read 112 = .ok (.bipush 59, 2) := by decide +kernel
theorem dX10_read_114 : decode cX10_read 114 = .ok (.invokevirtual 155, 3) := by decide +kernel
theorem dX10_read_117 : decode cX10_read 117 = .ok (.ifCond .eq 16, 3) := by decide +kernel
theorem dX10_read_120 : decode cX10_read 120 = .ok (.aload_n 0, 1) := by decide +kernel
theorem dX10_read_121 : decode cX10_read 121 = .ok (.dup, 1) := by decide +kernel
theorem dX10_read_122 : decode cX10_read 122 = .ok (.getfield 67, 3) := by decide +kernel
theorem dX10_read_125 : decode cX10_read 125 = .ok (.iconst 1, 1) := by decide +kernel
theorem dX10_read_126 : decode cX10_read 126 = .ok (.iadd, 1) := by decide +kernel
theorem dX10_read_127 : decode cX10_read 127 = .ok (.putfield 67, 3) := by decide +kernel
theorem dX10_read_130 : decode cX10_read 130 = .ok (.goto (-107), 3) := by decide +kernel
theorem dX10_read_133 : decode cX10_read 133 = .ok (.aload_n 0, 1) := by decide +kernel
theorem dX10_read_134 : decode cX10_read 134 = .ok (.aload_n 0, 1) := by decide +kernel
theorem dX10_read_135 : decode cX10_read 135 = .ok (.getfield 67, 3) := by decide +kernel
theorem dX10_read_138 : decode cX10_read 138 = .ok (.invokevirtual 92, 3) := by decide +kernel
theorem dX10_read_141 : decode cX10_read 141 = .ok (.goto (-118), 3) := by decide +kernel
theorem dX10_read_144 : decode cX10_read 144 = .ok (.iload_n 3, 1) := by decide +kernel
theorem dX10_read_145 : decode cX10_read 145 = .ok (.ireturn, 1) := by decide +kernel
def lp_X10_read_23 (a1 : Int32) : Nat → Int32 → Int32 → Mem → Option (Int32 × Mem)
  | 0, _, _, _ => none
  | n + 1, x3, x4, μ5 => if x3 = 0 then (some (x4, μ5)) else (if (μ5 0 12 12) = (-1) then ((f_X10_skip μ5).bind fun (q6 : Mem) => nm (fun (x7 : Int32) => nm (fun (μ8 : Mem) => (f_X10_skip μ8).bind fun (q9 : Mem) => if (q9 0 12 12) = (-1) then (if (q9 0 12 11) = (q9 0 12 10) then (lp_X10_read_23 a1 n 0 (x4 + 1) q9) else ((f_X10_isSign q9 59).bind fun (q10 : Int32 × Mem) => if q10.1 = 0 then ((f_X10_wrong q10.2 (q10.2 0 12 11)).bind fun (q11 : Mem) => lp_X10_read_23 a1 n x3 (x4 + 1) q11) else (nm (upm q10.2 0 12 11 ((q10.2 0 12 11) + 1)) fun (μ12 : Mem) => lp_X10_read_23 a1 n x3 (x4 + 1) μ12))) else (lp_X10_read_23 a1 n 0 (x4 + 1) q9)) fun (J80 : Mem → Option (Int32 × Mem)) => if x4 = x7 then ((f_X10_wrong q6 (q6 0 12 11)).bind fun (q13 : Mem) => J80 q13) else (if a1 = 0 then ((f_X10_houseLine q6).bind fun (q14 : Mem) => J80 q14) else ((f_X10_lawLine q6).bind fun (q15 : Mem) => J80 q15))) fun (J51 : Int32 → Option (Int32 × Mem)) => if a1 = 0 then (J51 14) else (J51 12)) else (some (x4, μ5)))
def f_X10_read (μ : Mem) (a1 : Int32) : Option (Int32 × Mem) := (f_X10_skip μ).bind fun (q1 : Mem) => nm (fun (x2 : Int32) => lp_X10_read_23 a1 4096 x2 0 q1) fun (J20 : Int32 → Option (Int32 × Mem)) => if (q1 0 12 10) ≤ (q1 0 12 11) then (J20 0) else (J20 1)
set_option maxHeartbeats 4000000 in
set_option maxRecDepth 100000 in
theorem c_X10_read (G : GG) (l : Launch) (μ : Mem) (a1 : Int32) : CI G l yX10_read (.code yX10_read cX10_read 4 (some .int)) 56 [.ref (gad G 0 12), .int a1] μ (f_X10_read μ a1) := by
  refine CI.of (own := "SaturdayKeepModel") (L0 := [some (.ref (gad G 0 12)), some (.int a1), none, none]) rfl rfl rfl (Nat.le_of_ble_eq_true rfl) (fun C hl hC => ?_)
  subst hl
  delta f_X10_read
  refine aw_aload_n (pc := 0) (i := 0) hC dX10_read_0 rfl rfl ?_
  refine aw_callVV (pc := 1) (As := []) hC mb_X10_skip kw1413 (by decide) (c_X10_skip G C.2.1   μ ) (v0 (j := 12) (by decide)) rfl rfl rfl (Nat.le_of_ble_eq_true rfl) dX10_read_1 (fun q1 => ?_)
  refine aw_aload_n (pc := 4) (i := 0) hC dX10_read_4 rfl rfl ?_
  refine aw_get (pc := 5) hC inX10 (v0 (j := 12) (by decide)) rfl rfl 11 (by decide) kw1325 rfl rfl dX10_read_5 ?_
  refine aw_aload_n (pc := 8) (i := 0) hC dX10_read_8 rfl rfl ?_
  refine aw_get (pc := 9) hC inX10 (v0 (j := 12) (by decide)) rfl rfl 10 (by decide) kw1324 rfl rfl dX10_read_9 ?_
  refine aw_nmJ (fun (J20 : Int32 → Option (Int32 × Mem)) => ∀ (x2 : Int32), AW G C (qI G C 0 0) 0 0 4 q1 20 [some (.ref (gad G 0 12)), some (.int a1), none, none] [.int x2] (J20 x2)) (fun x2 => ?_) (fun J20 hJ20 => ?_)
  · skip
    refine aw_istore_n (pc := 20) (i := 2) hC dX10_read_20 rfl rfl (by decide) ?_
    refine aw_iconst (pc := 21) (v := 0) hC dX10_read_21 ic0 ?_
    refine aw_istore_n (pc := 22) (i := 3) hC dX10_read_22 rfl rfl (by decide) ?_
    have hL23 : ∀ (n : Nat) (x3 : Int32) (x4 : Int32) (μ5 : Mem), AW G C (qI G C 0 0) 0 0 4 μ5 23 [some (.ref (gad G 0 12)), some (.int a1), some (.int x3), some (.int x4)] [] (lp_X10_read_23 a1 n x3 x4 μ5) := by
      intro n
      induction n with
      | zero => intro x3 x4 μ5; exact aw_none
      | succ n ih =>
        intro x3 x4 μ5
        rw [lp_X10_read_23]
        refine aw_iload_n (pc := 23) (i := 2) hC dX10_read_23 rfl rfl ?_
        refine aw_if_eq (pc := 24) (tgt := 144) hC dX10_read_24 (by decide) (fun _ => ?_) (fun _ => ?_)
        · skip
          refine aw_iload_n (pc := 144) (i := 3) hC dX10_read_144 rfl rfl ?_
          exact aw_iret hC dX10_read_145
        · skip
          refine aw_aload_n (pc := 27) (i := 0) hC dX10_read_27 rfl rfl ?_
          refine aw_get (pc := 28) hC inX10 (v0 (j := 12) (by decide)) rfl rfl 12 (by decide) kw1326 rfl rfl dX10_read_28 ?_
          refine aw_iconst (pc := 31) (v := (-1)) hC dX10_read_31 icm1 ?_
          refine aw_icmp_ne (pc := 32) (tgt := 144) hC dX10_read_32 (by decide) (fun _ => ?_) (fun _ => ?_)
          · skip
            refine aw_aload_n (pc := 35) (i := 0) hC dX10_read_35 rfl rfl ?_
            refine aw_callVV (pc := 36) (As := []) hC mb_X10_skip kw1413 (by decide) (c_X10_skip G C.2.1   μ5 ) (v0 (j := 12) (by decide)) rfl rfl rfl (Nat.le_of_ble_eq_true rfl) dX10_read_36 (fun q6 => ?_)
            refine aw_iload_n (pc := 39) (i := 3) hC dX10_read_39 rfl rfl ?_
            refine aw_iload_n (pc := 40) (i := 1) hC dX10_read_40 rfl rfl ?_
            refine aw_nmJ (fun (J51 : Int32 → Option (Int32 × Mem)) => ∀ (x7 : Int32), AW G C (qI G C 0 0) 0 0 4 q6 51 [some (.ref (gad G 0 12)), some (.int a1), some (.int x3), some (.int x4)] [.int x7, .int x4] (J51 x7)) (fun x7 => ?_) (fun J51 hJ51 => ?_)
            · skip
              refine aw_nmJ (fun (J80 : Mem → Option (Int32 × Mem)) => ∀ (μ8 : Mem), AW G C (qI G C 0 0) 0 0 4 μ8 80 [some (.ref (gad G 0 12)), some (.int a1), some (.int x3), some (.int x4)] [] (J80 μ8)) (fun μ8 => ?_) (fun J80 hJ80 => ?_)
              · skip
                refine aw_iinc (pc := 80) (v := x4 + 1) hC dX10_read_80 rfl (congrArg (HAdd.hAdd _) ic1) rfl (by decide) ?_
                refine aw_aload_n (pc := 83) (i := 0) hC dX10_read_83 rfl rfl ?_
                refine aw_callVV (pc := 84) (As := []) hC mb_X10_skip kw1413 (by decide) (c_X10_skip G C.2.1   μ8 ) (v0 (j := 12) (by decide)) rfl rfl rfl (Nat.le_of_ble_eq_true rfl) dX10_read_84 (fun q9 => ?_)
                refine aw_aload_n (pc := 87) (i := 0) hC dX10_read_87 rfl rfl ?_
                refine aw_get (pc := 88) hC inX10 (v0 (j := 12) (by decide)) rfl rfl 12 (by decide) kw1326 rfl rfl dX10_read_88 ?_
                refine aw_iconst (pc := 91) (v := (-1)) hC dX10_read_91 icm1 ?_
                refine aw_icmp_ne (pc := 92) (tgt := 106) hC dX10_read_92 (by decide) (fun _ => ?_) (fun _ => ?_)
                · skip
                  refine aw_aload_n (pc := 95) (i := 0) hC dX10_read_95 rfl rfl ?_
                  refine aw_get (pc := 96) hC inX10 (v0 (j := 12) (by decide)) rfl rfl 11 (by decide) kw1325 rfl rfl dX10_read_96 ?_
                  refine aw_aload_n (pc := 99) (i := 0) hC dX10_read_99 rfl rfl ?_
                  refine aw_get (pc := 100) hC inX10 (v0 (j := 12) (by decide)) rfl rfl 10 (by decide) kw1324 rfl rfl dX10_read_100 ?_
                  refine aw_icmp_ne (pc := 103) (tgt := 111) hC dX10_read_103 (by decide) (fun _ => ?_) (fun _ => ?_)
                  · skip
                    refine aw_iconst (pc := 106) (v := 0) hC dX10_read_106 ic0 ?_
                    refine aw_istore_n (pc := 107) (i := 2) hC dX10_read_107 rfl rfl (by decide) ?_
                    refine aw_goto (pc := 108) (tgt := 23) hC dX10_read_108 (by decide) ?_
                    exact ih 0 (x4 + 1) q9
                  · skip
                    refine aw_aload_n (pc := 111) (i := 0) hC dX10_read_111 rfl rfl ?_
                    refine aw_bipush (pc := 112) (v := 59) hC dX10_read_112 bc59 ?_
                    refine aw_callVI (pc := 114) (As := [.int 59]) hC mb_X10_isSign kw1459 (by decide) (c_X10_isSign G C.2.1   q9 59) (v0 (j := 12) (by decide)) rfl rfl rfl (Nat.le_of_ble_eq_true rfl) dX10_read_114 (fun q10 => ?_)
                    refine aw_if_eq (pc := 117) (tgt := 133) hC dX10_read_117 (by decide) (fun _ => ?_) (fun _ => ?_)
                    · skip
                      refine aw_aload_n (pc := 133) (i := 0) hC dX10_read_133 rfl rfl ?_
                      refine aw_aload_n (pc := 134) (i := 0) hC dX10_read_134 rfl rfl ?_
                      refine aw_get (pc := 135) hC inX10 (v0 (j := 12) (by decide)) rfl rfl 11 (by decide) kw1325 rfl rfl dX10_read_135 ?_
                      refine aw_callVV (pc := 138) (As := [.int (q10.2 0 12 11)]) hC mb_X10_wrong kw1421 (by decide) (c_X10_wrong G C.2.1   q10.2 (q10.2 0 12 11)) (v0 (j := 12) (by decide)) rfl rfl rfl (Nat.le_of_ble_eq_true rfl) dX10_read_138 (fun q11 => ?_)
                      refine aw_goto (pc := 141) (tgt := 23) hC dX10_read_141 (by decide) ?_
                      exact ih x3 (x4 + 1) q11
                    · skip
                      refine aw_aload_n (pc := 120) (i := 0) hC dX10_read_120 rfl rfl ?_
                      refine aw_dup (pc := 121) hC dX10_read_121 rfl ?_
                      refine aw_get (pc := 122) hC inX10 (v0 (j := 12) (by decide)) rfl rfl 11 (by decide) kw1325 rfl rfl dX10_read_122 ?_
                      refine aw_iconst (pc := 125) (v := 1) hC dX10_read_125 ic1 ?_
                      refine aw_iadd (pc := 126) hC dX10_read_126 ?_
                      refine aw_putIN (pc := 127) hC inX10 (v0 (j := 12) (by decide)) rfl rfl 11 (by decide) kw1325 rfl tyX10 tyX10_ok nmX10 rfl rfl (Nat.le_of_ble_eq_true rfl) rfl dX10_read_127 (fun μ12 => ?_)
                      refine aw_goto (pc := 130) (tgt := 23) hC dX10_read_130 (by decide) ?_
                      exact ih x3 (x4 + 1) μ12
                · skip
                  refine aw_iconst (pc := 106) (v := 0) hC dX10_read_106 ic0 ?_
                  refine aw_istore_n (pc := 107) (i := 2) hC dX10_read_107 rfl rfl (by decide) ?_
                  refine aw_goto (pc := 108) (tgt := 23) hC dX10_read_108 (by decide) ?_
                  exact ih 0 (x4 + 1) q9
              · skip
                refine aw_icmp_ne (pc := 51) (tgt := 65) hC dX10_read_51 (by decide) (fun _ => ?_) (fun _ => ?_)
                · skip
                  refine aw_aload_n (pc := 54) (i := 0) hC dX10_read_54 rfl rfl ?_
                  refine aw_aload_n (pc := 55) (i := 0) hC dX10_read_55 rfl rfl ?_
                  refine aw_get (pc := 56) hC inX10 (v0 (j := 12) (by decide)) rfl rfl 11 (by decide) kw1325 rfl rfl dX10_read_56 ?_
                  refine aw_callVV (pc := 59) (As := [.int (q6 0 12 11)]) hC mb_X10_wrong kw1421 (by decide) (c_X10_wrong G C.2.1   q6 (q6 0 12 11)) (v0 (j := 12) (by decide)) rfl rfl rfl (Nat.le_of_ble_eq_true rfl) dX10_read_59 (fun q13 => ?_)
                  refine aw_goto (pc := 62) (tgt := 80) hC dX10_read_62 (by decide) ?_
                  exact hJ80 q13
                · skip
                  refine aw_iload_n (pc := 65) (i := 1) hC dX10_read_65 rfl rfl ?_
                  refine aw_if_eq (pc := 66) (tgt := 76) hC dX10_read_66 (by decide) (fun _ => ?_) (fun _ => ?_)
                  · skip
                    refine aw_aload_n (pc := 76) (i := 0) hC dX10_read_76 rfl rfl ?_
                    refine aw_callVV (pc := 77) (As := []) hC mb_X10_houseLine kw1486 (by decide) (c_X10_houseLine G C.2.1   q6 ) (v0 (j := 12) (by decide)) rfl rfl rfl (Nat.le_of_ble_eq_true rfl) dX10_read_77 (fun q14 => ?_)
                    exact hJ80 q14
                  · skip
                    refine aw_aload_n (pc := 69) (i := 0) hC dX10_read_69 rfl rfl ?_
                    refine aw_callVV (pc := 70) (As := []) hC mb_X10_lawLine kw1425 (by decide) (c_X10_lawLine G C.2.1   q6 ) (v0 (j := 12) (by decide)) rfl rfl rfl (Nat.le_of_ble_eq_true rfl) dX10_read_70 (fun q15 => ?_)
                    refine aw_goto (pc := 73) (tgt := 80) hC dX10_read_73 (by decide) ?_
                    exact hJ80 q15
            · skip
              refine aw_if_eq (pc := 41) (tgt := 49) hC dX10_read_41 (by decide) (fun _ => ?_) (fun _ => ?_)
              · skip
                refine aw_bipush (pc := 49) (v := 14) hC dX10_read_49 bc14 ?_
                exact hJ51 14
              · skip
                refine aw_bipush (pc := 44) (v := 12) hC dX10_read_44 bc12 ?_
                refine aw_goto (pc := 46) (tgt := 51) hC dX10_read_46 (by decide) ?_
                exact hJ51 12
          · skip
            refine aw_iload_n (pc := 144) (i := 3) hC dX10_read_144 rfl rfl ?_
            exact aw_iret hC dX10_read_145
    exact hL23 4096 x2 0 q1
  · skip
    refine aw_icmp_ge (pc := 12) (tgt := 19) hC dX10_read_12 (by decide) (fun _ => ?_) (fun _ => ?_)
    · skip
      refine aw_iconst (pc := 19) (v := 0) hC dX10_read_19 ic0 ?_
      exact hJ20 0
    · skip
      refine aw_iconst (pc := 15) (v := 1) hC dX10_read_15 ic1 ?_
      refine aw_goto (pc := 16) (tgt := 20) hC dX10_read_16 (by decide) ?_
      exact hJ20 1
theorem dX10_comesBack_0 : decode cX10_comesBack 0 = .ok (.iconst 0, 1) := by decide +kernel
theorem dX10_comesBack_1 : decode cX10_comesBack 1 = .ok (.istore_n 1, 1) := by decide +kernel
theorem dX10_comesBack_2 : decode cX10_comesBack 2 = .ok (.iload_n 1, 1) := by decide +kernel
theorem dX10_comesBack_3 : decode cX10_comesBack 3 = .ok (.sipush 304, 3) := by decide +kernel
theorem dX10_comesBack_6 : decode cX10_comesBack 6 = .ok (.if_icmp .ge 21, 3) := by decide +kernel
theorem dX10_comesBack_9 : decode cX10_comesBack 9 = .ok (.aload_n 0, 1) := by decide +kernel
theorem dX10_comesBack_10 : decode cX10_comesBack 10 = .ok (.getfield 7, 3) := by decide +kernel
theorem dX10_comesBack_13 : decode cX10_comesBack 13 = .ok (.iload_n 1, 1) := by decide +kernel
theorem dX10_comesBack_14 : decode cX10_comesBack 14 = .ok (.aload_n 0, 1) := by decide +kernel
theorem dX10_comesBack_15 : decode cX10_comesBack 15 = .ok (.getfield 16, 3) := by decide +kernel
theorem dX10_comesBack_18 : decode cX10_comesBack 18 = .ok (.iload_n 1, 1) := by decide +kernel
theorem dX10_comesBack_19 : decode cX10_comesBack 19 = .ok (.iaload, 1) := by decide +kernel
theorem dX10_comesBack_20 : decode cX10_comesBack 20 = .ok (.iastore, 1) := by decide +kernel
theorem dX10_comesBack_21 : decode cX10_comesBack 21 = .ok (.iinc 1 1, 3) := by decide +kernel
theorem dX10_comesBack_24 : decode cX10_comesBack 24 = .ok (.goto (-22), 3) := by decide +kernel
theorem dX10_comesBack_27 : decode cX10_comesBack 27 = .ok (.return_, 1) := by decide +kernel
def lp_X10_comesBack_2  : Nat → Int32 → Mem → Option (Mem)
  | 0, _, _ => none
  | n + 1, x1, μ2 => if 304 ≤ x1 then (some μ2) else (ix x1 304 (ix x1 704 (nm (upm μ2 0 13 x1.toNatClampNeg (μ2 0 15 x1.toNatClampNeg)) fun (μ3 : Mem) => lp_X10_comesBack_2 n (x1 + 1) μ3)))
def f_X10_comesBack (μ : Mem) : Option (Mem) := lp_X10_comesBack_2 4096 0 μ
set_option maxHeartbeats 4000000 in
set_option maxRecDepth 100000 in
theorem c_X10_comesBack (G : GG) (l : Launch) (μ : Mem) : CV G l yX10_comesBack (.code yX10_comesBack cX10_comesBack 2 none) 1 [.ref (gad G 0 12)] μ (f_X10_comesBack μ) := by
  refine CV.of (own := "SaturdayKeepModel") (L0 := [some (.ref (gad G 0 12)), none]) rfl rfl rfl (Nat.le_of_ble_eq_true rfl) (fun C hl hC => ?_)
  subst hl
  delta f_X10_comesBack
  refine aw_iconst (pc := 0) (v := 0) hC dX10_comesBack_0 ic0 ?_
  refine aw_istore_n (pc := 1) (i := 1) hC dX10_comesBack_1 rfl rfl (by decide) ?_
  have hL2 : ∀ (n : Nat) (x1 : Int32) (μ2 : Mem), AW G C (qV G C 0 0) 0 0 2 μ2 2 [some (.ref (gad G 0 12)), some (.int x1)] [] (lp_X10_comesBack_2 n x1 μ2) := by
    intro n
    induction n with
    | zero => intro x1 μ2; exact aw_none
    | succ n ih =>
      intro x1 μ2
      rw [lp_X10_comesBack_2]
      refine aw_iload_n (pc := 2) (i := 1) hC dX10_comesBack_2 rfl rfl ?_
      refine aw_sipush (pc := 3) (v := 304) hC dX10_comesBack_3 sc304 ?_
      refine aw_icmp_ge (pc := 6) (tgt := 27) hC dX10_comesBack_6 (by decide) (fun _ => ?_) (fun _ => ?_)
      · skip
        exact aw_vret hC dX10_comesBack_27
      · skip
        refine aw_aload_n (pc := 9) (i := 0) hC dX10_comesBack_9 rfl rfl ?_
        refine aw_get (pc := 10) hC inX10 (v0 (j := 12) (by decide)) rfl rfl 1 (by decide) kw1315 rfl rfl dX10_comesBack_10 ?_
        refine aw_iload_n (pc := 13) (i := 1) hC dX10_comesBack_13 rfl rfl ?_
        refine aw_aload_n (pc := 14) (i := 0) hC dX10_comesBack_14 rfl rfl ?_
        refine aw_get (pc := 15) hC inX10 (v0 (j := 12) (by decide)) rfl rfl 4 (by decide) kw1318 rfl rfl dX10_comesBack_15 ?_
        refine aw_iload_n (pc := 18) (i := 1) hC dX10_comesBack_18 rfl rfl ?_
        refine aw_iaload (pc := 19) hC (v0 (j := 15) (by decide)) rfl dX10_comesBack_19 ?_
        refine aw_iastoreN (pc := 20) hC (v0 (j := 13) (by decide)) (fun _ => rfl) dX10_comesBack_20 (fun μ3 => ?_)
        refine aw_iinc (pc := 21) (v := x1 + 1) hC dX10_comesBack_21 rfl (congrArg (HAdd.hAdd _) ic1) rfl (by decide) ?_
        refine aw_goto (pc := 24) (tgt := 2) hC dX10_comesBack_24 (by decide) ?_
        exact ih (x1 + 1) μ3
  exact hL2 4096 0 μ
theorem dX10_house_0 : decode cX10_house 0 = .ok (.aload_n 0, 1) := by decide +kernel
theorem dX10_house_1 : decode cX10_house 1 = .ok (.invokevirtual 159, 3) := by decide +kernel
theorem dX10_house_4 : decode cX10_house 4 = .ok (.aload_n 0, 1) := by decide +kernel
theorem dX10_house_5 : decode cX10_house 5 = .ok (.invokevirtual 162, 3) := by decide +kernel
theorem dX10_house_8 : decode cX10_house 8 = .ok (.aload_n 0, 1) := by decide +kernel
theorem dX10_house_9 : decode cX10_house 9 = .ok (.iconst 0, 1) := by decide +kernel
theorem dX10_house_10 : decode cX10_house 10 = .ok (.invokevirtual 165, 3) := by decide +kernel
theorem dX10_house_13 : decode cX10_house 13 = .ok (.istore_n 1, 1) := by decide +kernel
theorem dX10_house_14 : decode cX10_house 14 = .ok (.aload_n 0, 1) := by decide +kernel
theorem dX10_house_15 : decode cX10_house 15 = .ok (.aload_n 0, 1) := by decide +kernel
theorem dX10_house_16 : decode cX10_house 16 = .ok (.getfield 25, 3) := by decide +kernel
theorem dX10_house_19 : decode cX10_house 19 = .ok (.iconst (-1), 1) := by decide +kernel
theorem dX10_house_20 : decode cX10_house 20 = .ok (.if_icmp .eq 7, 3) := by decide +kernel
theorem dX10_house_23 : decode cX10_house 23 = .ok (.iconst 1, 1) := by decide +kernel
theorem dX10_house_24 : decode cX10_house 24 = .ok (.goto 19, 3) := by decide +kernel
theorem dX10_house_27 : decode cX10_house 27 = .ok (.aload_n 0, 1) := by decide +kernel
theorem dX10_house_28 : decode cX10_house 28 = .ok (.getfield 7, 3) := by decide +kernel
theorem dX10_house_31 : decode cX10_house 31 = .ok (.iconst 0, 1) := by decide +kernel
theorem dX10_house_32 : decode cX10_house 32 = .ok (.iaload, 1) := by decide +kernel
theorem dX10_house_33 : decode cX10_house 33 = .ok (.bipush 12, 2) := by decide +kernel
theorem dX10_house_35 : decode cX10_house 35 = .ok (.if_icmp .ne 7, 3) := by decide +kernel
theorem dX10_house_38 : decode cX10_house 38 = .ok (.iconst 2, 1) := by decide +kernel
theorem dX10_house_39 : decode cX10_house 39 = .ok (.goto 4, 3) := by decide +kernel
theorem dX10_house_42 : decode cX10_house 42 = .ok (.iconst 0, 1) := by decide +kernel
theorem dX10_house_43 : decode cX10_house 43 = .ok (.putfield 42, 3) := by decide +kernel
theorem dX10_house_46 : decode cX10_house 46 = .ok (.aload_n 0, 1) := by decide +kernel
theorem dX10_house_47 : decode cX10_house 47 = .ok (.getfield 42, 3) := by decide +kernel
theorem dX10_house_50 : decode cX10_house 50 = .ok (.ifCond .le 9, 3) := by decide +kernel
theorem dX10_house_53 : decode cX10_house 53 = .ok (.aload_n 0, 1) := by decide +kernel
theorem dX10_house_54 : decode cX10_house 54 = .ok (.invokevirtual 169, 3) := by decide +kernel
theorem dX10_house_57 : decode cX10_house 57 = .ok (.iconst 0, 1) := by decide +kernel
theorem dX10_house_58 : decode cX10_house 58 = .ok (.ireturn, 1) := by decide +kernel
theorem dX10_house_59 : decode cX10_house 59 = .ok (.aload_n 0, 1) := by decide +kernel
theorem dX10_house_60 : decode cX10_house 60 = .ok (.getfield 7, 3) := by decide +kernel
theorem dX10_house_63 : decode cX10_house 63 = .ok (.iconst 0, 1) := by decide +kernel
theorem dX10_house_64 : decode cX10_house 64 = .ok (.dup2, 1) := by decide +kernel
theorem dX10_house_65 : decode cX10_house 65 = .ok (.iaload, 1) := by decide +kernel
theorem dX10_house_66 : decode cX10_house 66 = .ok (.iconst 1, 1) := by decide +kernel
theorem dX10_house_67 : decode cX10_house 67 = .ok (.iadd, 1) := by decide +kernel
theorem dX10_house_68 : decode cX10_house 68 = .ok (.iastore, 1) := by decide +kernel
theorem dX10_house_69 : decode cX10_house 69 = .ok (.aload_n 0, 1) := by decide +kernel
theorem dX10_house_70 : decode cX10_house 70 = .ok (.iconst 0, 1) := by decide +kernel
theorem dX10_house_71 : decode cX10_house 71 = .ok (.putfield 172, 3) := by decide +kernel
theorem dX10_house_74 : decode cX10_house 74 = .ok (.aload_n 0, 1) := by decide +kernel
theorem dX10_house_75 : decode cX10_house 75 = .ok (.getfield 7, 3) := by decide +kernel
theorem dX10_house_78 : decode cX10_house 78 = .ok (.iconst 0, 1) := by decide +kernel
theorem dX10_house_79 : decode cX10_house 79 = .ok (.iaload, 1) := by decide +kernel
theorem dX10_house_80 : decode cX10_house 80 = .ok (.ireturn, 1) := by decide +kernel
def f_X10_house (μ : Mem) : Option (Int32 × Mem) := (f_X10_putsAside μ).bind fun (q1 : Mem) => (f_X10_begins q1).bind fun (q2 : Mem) => (f_X10_read q2 0).bind fun (q3 : Int32 × Mem) => nm (fun (x4 : Int32) => nm (upm q3.2 0 12 0 x4) fun (μ5 : Mem) => if (μ5 0 12 0) ≤ 0 then (ix 0 704 (ix 0 704 (nm (upm μ5 0 13 (Int32.toNatClampNeg 0) ((μ5 0 13 (Int32.toNatClampNeg 0)) + 1)) fun (μ6 : Mem) => nm (upm μ6 0 12 6 0) fun (μ7 : Mem) => ix 0 704 (some ((μ7 0 13 (Int32.toNatClampNeg 0)), μ7))))) else ((f_X10_comesBack μ5).bind fun (q8 : Mem) => some (0, q8))) fun (J43 : Int32 → Option (Int32 × Mem)) => if (q3.2 0 12 12) = (-1) then (ix 0 704 (if (q3.2 0 13 (Int32.toNatClampNeg 0)) = 12 then (J43 2) else (J43 0))) else (J43 1)
set_option maxHeartbeats 4000000 in
set_option maxRecDepth 100000 in
theorem c_X10_house (G : GG) (l : Launch) (μ : Mem) : CI G l yX10_house (.code yX10_house cX10_house 2 (some .int)) 57 [.ref (gad G 0 12)] μ (f_X10_house μ) := by
  refine CI.of (own := "SaturdayKeepModel") (L0 := [some (.ref (gad G 0 12)), none]) rfl rfl rfl (Nat.le_of_ble_eq_true rfl) (fun C hl hC => ?_)
  subst hl
  delta f_X10_house
  refine aw_aload_n (pc := 0) (i := 0) hC dX10_house_0 rfl rfl ?_
  refine aw_callVV (pc := 1) (As := []) hC mb_X10_putsAside kw1401 (by decide) (c_X10_putsAside G C.2.1   μ ) (v0 (j := 12) (by decide)) rfl rfl rfl (Nat.le_of_ble_eq_true rfl) dX10_house_1 (fun q1 => ?_)
  refine aw_aload_n (pc := 4) (i := 0) hC dX10_house_4 rfl rfl ?_
  refine aw_callVV (pc := 5) (As := []) hC mb_X10_begins kw1405 (by decide) (c_X10_begins G C.2.1   q1 ) (v0 (j := 12) (by decide)) rfl rfl rfl (Nat.le_of_ble_eq_true rfl) dX10_house_5 (fun q2 => ?_)
  refine aw_aload_n (pc := 8) (i := 0) hC dX10_house_8 rfl rfl ?_
  refine aw_iconst (pc := 9) (v := 0) hC dX10_house_9 ic0 ?_
  refine aw_callVI (pc := 10) (As := [.int 0]) hC mb_X10_read kw1409 (by decide) (c_X10_read G C.2.1   q2 0) (v0 (j := 12) (by decide)) rfl rfl rfl (Nat.le_of_ble_eq_true rfl) dX10_house_10 (fun q3 => ?_)
  refine aw_istore_n (pc := 13) (i := 1) hC dX10_house_13 rfl rfl (by decide) ?_
  refine aw_aload_n (pc := 14) (i := 0) hC dX10_house_14 rfl rfl ?_
  refine aw_aload_n (pc := 15) (i := 0) hC dX10_house_15 rfl rfl ?_
  refine aw_get (pc := 16) hC inX10 (v0 (j := 12) (by decide)) rfl rfl 12 (by decide) kw1326 rfl rfl dX10_house_16 ?_
  refine aw_iconst (pc := 19) (v := (-1)) hC dX10_house_19 icm1 ?_
  refine aw_nmJ (fun (J43 : Int32 → Option (Int32 × Mem)) => ∀ (x4 : Int32), AW G C (qI G C 0 0) 0 0 2 q3.2 43 [some (.ref (gad G 0 12)), none] [.int x4, .ref (gad G 0 12)] (J43 x4)) (fun x4 => ?_) (fun J43 hJ43 => ?_)
  · skip
    refine aw_putIN (pc := 43) hC inX10 (v0 (j := 12) (by decide)) rfl rfl 0 (by decide) kw1314 rfl tyX10 tyX10_ok nmX10 rfl rfl (Nat.le_of_ble_eq_true rfl) rfl dX10_house_43 (fun μ5 => ?_)
    refine aw_aload_n (pc := 46) (i := 0) hC dX10_house_46 rfl rfl ?_
    refine aw_get (pc := 47) hC inX10 (v0 (j := 12) (by decide)) rfl rfl 0 (by decide) kw1314 rfl rfl dX10_house_47 ?_
    refine aw_if_le (pc := 50) (tgt := 59) hC dX10_house_50 (by decide) (fun _ => ?_) (fun _ => ?_)
    · skip
      refine aw_aload_n (pc := 59) (i := 0) hC dX10_house_59 rfl rfl ?_
      refine aw_get (pc := 60) hC inX10 (v0 (j := 12) (by decide)) rfl rfl 1 (by decide) kw1315 rfl rfl dX10_house_60 ?_
      refine aw_iconst (pc := 63) (v := 0) hC dX10_house_63 ic0 ?_
      refine aw_dup2 (pc := 64) hC dX10_house_64 rfl rfl ?_
      refine aw_iaload (pc := 65) hC (v0 (j := 13) (by decide)) rfl dX10_house_65 ?_
      refine aw_iconst (pc := 66) (v := 1) hC dX10_house_66 ic1 ?_
      refine aw_iadd (pc := 67) hC dX10_house_67 ?_
      refine aw_iastoreN (pc := 68) hC (v0 (j := 13) (by decide)) (fun _ => rfl) dX10_house_68 (fun μ6 => ?_)
      refine aw_aload_n (pc := 69) (i := 0) hC dX10_house_69 rfl rfl ?_
      refine aw_iconst (pc := 70) (v := 0) hC dX10_house_70 ic0 ?_
      refine aw_putIN (pc := 71) hC inX10 (v0 (j := 12) (by decide)) rfl rfl 6 (by decide) kw1320 rfl tyX10 tyX10_ok nmX10 rfl rfl (Nat.le_of_ble_eq_true rfl) rfl dX10_house_71 (fun μ7 => ?_)
      refine aw_aload_n (pc := 74) (i := 0) hC dX10_house_74 rfl rfl ?_
      refine aw_get (pc := 75) hC inX10 (v0 (j := 12) (by decide)) rfl rfl 1 (by decide) kw1315 rfl rfl dX10_house_75 ?_
      refine aw_iconst (pc := 78) (v := 0) hC dX10_house_78 ic0 ?_
      refine aw_iaload (pc := 79) hC (v0 (j := 13) (by decide)) rfl dX10_house_79 ?_
      exact aw_iret hC dX10_house_80
    · skip
      refine aw_aload_n (pc := 53) (i := 0) hC dX10_house_53 rfl rfl ?_
      refine aw_callVV (pc := 54) (As := []) hC mb_X10_comesBack kw1519 (by decide) (c_X10_comesBack G C.2.1   μ5 ) (v0 (j := 12) (by decide)) rfl rfl rfl (Nat.le_of_ble_eq_true rfl) dX10_house_54 (fun q8 => ?_)
      refine aw_iconst (pc := 57) (v := 0) hC dX10_house_57 ic0 ?_
      exact aw_iret hC dX10_house_58
  · skip
    refine aw_icmp_eq (pc := 20) (tgt := 27) hC dX10_house_20 (by decide) (fun _ => ?_) (fun _ => ?_)
    · skip
      refine aw_aload_n (pc := 27) (i := 0) hC dX10_house_27 rfl rfl ?_
      refine aw_get (pc := 28) hC inX10 (v0 (j := 12) (by decide)) rfl rfl 1 (by decide) kw1315 rfl rfl dX10_house_28 ?_
      refine aw_iconst (pc := 31) (v := 0) hC dX10_house_31 ic0 ?_
      refine aw_iaload (pc := 32) hC (v0 (j := 13) (by decide)) rfl dX10_house_32 ?_
      refine aw_bipush (pc := 33) (v := 12) hC dX10_house_33 bc12 ?_
      refine aw_icmp_ne (pc := 35) (tgt := 42) hC dX10_house_35 (by decide) (fun _ => ?_) (fun _ => ?_)
      · skip
        refine aw_iconst (pc := 38) (v := 2) hC dX10_house_38 ic2 ?_
        refine aw_goto (pc := 39) (tgt := 43) hC dX10_house_39 (by decide) ?_
        exact aw_drop [1] (hJ43 2)
      · skip
        refine aw_iconst (pc := 42) (v := 0) hC dX10_house_42 ic0 ?_
        exact aw_drop [1] (hJ43 0)
    · skip
      refine aw_iconst (pc := 23) (v := 1) hC dX10_house_23 ic1 ?_
      refine aw_goto (pc := 24) (tgt := 43) hC dX10_house_24 (by decide) ?_
      exact aw_drop [1] (hJ43 1)
theorem dX10_law_0 : decode cX10_law 0 = .ok (.aload_n 0, 1) := by decide +kernel
theorem dX10_law_1 : decode cX10_law 1 = .ok (.invokevirtual 162, 3) := by decide +kernel
theorem dX10_law_4 : decode cX10_law 4 = .ok (.aload_n 0, 1) := by decide +kernel
theorem dX10_law_5 : decode cX10_law 5 = .ok (.iconst 1, 1) := by decide +kernel
theorem dX10_law_6 : decode cX10_law 6 = .ok (.invokevirtual 165, 3) := by decide +kernel
theorem dX10_law_9 : decode cX10_law 9 = .ok (.istore_n 1, 1) := by decide +kernel
theorem dX10_law_10 : decode cX10_law 10 = .ok (.aload_n 0, 1) := by decide +kernel
theorem dX10_law_11 : decode cX10_law 11 = .ok (.aload_n 0, 1) := by decide +kernel
theorem dX10_law_12 : decode cX10_law 12 = .ok (.getfield 25, 3) := by decide +kernel
theorem dX10_law_15 : decode cX10_law 15 = .ok (.iconst (-1), 1) := by decide +kernel
theorem dX10_law_16 : decode cX10_law 16 = .ok (.if_icmp .eq 7, 3) := by decide +kernel
theorem dX10_law_19 : decode cX10_law 19 = .ok (.iconst 1, 1) := by decide +kernel
theorem dX10_law_20 : decode cX10_law 20 = .ok (.goto 4, 3) := by decide +kernel
theorem dX10_law_23 : decode cX10_law 23 = .ok (.iconst 0, 1) := by decide +kernel
theorem dX10_law_24 : decode cX10_law 24 = .ok (.putfield 42, 3) := by decide +kernel
theorem dX10_law_27 : decode cX10_law 27 = .ok (.aload_n 0, 1) := by decide +kernel
theorem dX10_law_28 : decode cX10_law 28 = .ok (.getfield 42, 3) := by decide +kernel
theorem dX10_law_31 : decode cX10_law 31 = .ok (.ifCond .le 5, 3) := by decide +kernel
theorem dX10_law_34 : decode cX10_law 34 = .ok (.iconst 0, 1) := by decide +kernel
theorem dX10_law_35 : decode cX10_law 35 = .ok (.ireturn, 1) := by decide +kernel
theorem dX10_law_36 : decode cX10_law 36 = .ok (.aload_n 0, 1) := by decide +kernel
theorem dX10_law_37 : decode cX10_law 37 = .ok (.getfield 7, 3) := by decide +kernel
theorem dX10_law_40 : decode cX10_law 40 = .ok (.iconst 1, 1) := by decide +kernel
theorem dX10_law_41 : decode cX10_law 41 = .ok (.iload_n 1, 1) := by decide +kernel
theorem dX10_law_42 : decode cX10_law 42 = .ok (.iastore, 1) := by decide +kernel
theorem dX10_law_43 : decode cX10_law 43 = .ok (.aload_n 0, 1) := by decide +kernel
theorem dX10_law_44 : decode cX10_law 44 = .ok (.getfield 7, 3) := by decide +kernel
theorem dX10_law_47 : decode cX10_law 47 = .ok (.iconst 2, 1) := by decide +kernel
theorem dX10_law_48 : decode cX10_law 48 = .ok (.aload_n 0, 1) := by decide +kernel
theorem dX10_law_49 : decode cX10_law 49 = .ok (.getfield 70, 3) := by decide +kernel
theorem dX10_law_52 : decode cX10_law 52 = .ok (.iastore, 1) := by decide +kernel
theorem dX10_law_53 : decode cX10_law 53 = .ok (.iconst 0, 1) := by decide +kernel
theorem dX10_law_54 : decode cX10_law 54 = .ok (.istore_n 2, 1) := by decide +kernel
theorem dX10_law_55 : decode cX10_law 55 = .ok (.iload_n 2, 1) := by decide +kernel
theorem dX10_law_56 : decode cX10_law 56 = .ok (.aload_n 0, 1) := by decide +kernel
theorem dX10_law_57 : decode cX10_law 57 = .ok (.getfield 70, 3) := by decide +kernel
theorem dX10_law_60 : decode cX10_law 60 = .ok (.if_icmp .ge 25, 3) := by decide +kernel
theorem dX10_law_63 : decode cX10_law 63 = .ok (.aload_n 0, 1) := by decide +kernel
theorem dX10_law_64 : decode cX10_law 64 = .ok (.getfield 7, 3) := by decide +kernel
theorem dX10_law_67 : decode cX10_law 67 = .ok (.sipush 304, 3) := by decide +kernel
theorem dX10_law_70 : decode cX10_law 70 = .ok (.iload_n 2, 1) := by decide +kernel
theorem dX10_law_71 : decode cX10_law 71 = .ok (.iadd, 1) := by decide +kernel
theorem dX10_law_72 : decode cX10_law 72 = .ok (.aload_n 0, 1) := by decide +kernel
theorem dX10_law_73 : decode cX10_law 73 = .ok (.getfield 22, 3) := by decide +kernel
theorem dX10_law_76 : decode cX10_law 76 = .ok (.iload_n 2, 1) := by decide +kernel
theorem dX10_law_77 : decode cX10_law 77 = .ok (.iaload, 1) := by decide +kernel
theorem dX10_law_78 : decode cX10_law 78 = .ok (.iastore, 1) := by decide +kernel
theorem dX10_law_79 : decode cX10_law 79 = .ok (.iinc 2 1, 3) := by decide +kernel
theorem dX10_law_82 : decode cX10_law 82 = .ok (.goto (-27), 3) := by decide +kernel
theorem dX10_law_85 : decode cX10_law 85 = .ok (.aload_n 0, 1) := by decide +kernel
theorem dX10_law_86 : decode cX10_law 86 = .ok (.iconst 0, 1) := by decide +kernel
theorem dX10_law_87 : decode cX10_law 87 = .ok (.putfield 172, 3) := by decide +kernel
theorem dX10_law_90 : decode cX10_law 90 = .ok (.iload_n 1, 1) := by decide +kernel
theorem dX10_law_91 : decode cX10_law 91 = .ok (.ireturn, 1) := by decide +kernel
def lp_X10_law_55 (k85 : Mem → Option (Int32 × Mem)) : Nat → Int32 → Mem → Option (Int32 × Mem)
  | 0, _, _ => none
  | n + 1, x8, μ9 => if (μ9 0 12 10) ≤ x8 then (k85 μ9) else (ix x8 400 (ix (304 + x8) 704 (nm (upm μ9 0 13 (304 + x8).toNatClampNeg (μ9 0 17 x8.toNatClampNeg)) fun (μ10 : Mem) => lp_X10_law_55 k85 n (x8 + 1) μ10)))
def f_X10_law (μ : Mem) : Option (Int32 × Mem) := (f_X10_begins μ).bind fun (q1 : Mem) => (f_X10_read q1 1).bind fun (q2 : Int32 × Mem) => nm (fun (x3 : Int32) => nm (upm q2.2 0 12 0 x3) fun (μ4 : Mem) => if (μ4 0 12 0) ≤ 0 then (ix 1 704 (nm (upm μ4 0 13 (Int32.toNatClampNeg 1) q2.1) fun (μ5 : Mem) => ix 2 704 (nm (upm μ5 0 13 (Int32.toNatClampNeg 2) (μ5 0 12 10)) fun (μ6 : Mem) => lp_X10_law_55 (fun (μ7 : Mem) => nm (upm μ7 0 12 6 0) fun (μ11 : Mem) => some (q2.1, μ11)) 4096 0 μ6))) else (some (0, μ4))) fun (J24 : Int32 → Option (Int32 × Mem)) => if (q2.2 0 12 12) = (-1) then (J24 0) else (J24 1)
set_option maxHeartbeats 4000000 in
set_option maxRecDepth 100000 in
theorem c_X10_law (G : GG) (l : Launch) (μ : Mem) : CI G l yX10_law (.code yX10_law cX10_law 3 (some .int)) 57 [.ref (gad G 0 12)] μ (f_X10_law μ) := by
  refine CI.of (own := "SaturdayKeepModel") (L0 := [some (.ref (gad G 0 12)), none, none]) rfl rfl rfl (Nat.le_of_ble_eq_true rfl) (fun C hl hC => ?_)
  subst hl
  delta f_X10_law
  refine aw_aload_n (pc := 0) (i := 0) hC dX10_law_0 rfl rfl ?_
  refine aw_callVV (pc := 1) (As := []) hC mb_X10_begins kw1405 (by decide) (c_X10_begins G C.2.1   μ ) (v0 (j := 12) (by decide)) rfl rfl rfl (Nat.le_of_ble_eq_true rfl) dX10_law_1 (fun q1 => ?_)
  refine aw_aload_n (pc := 4) (i := 0) hC dX10_law_4 rfl rfl ?_
  refine aw_iconst (pc := 5) (v := 1) hC dX10_law_5 ic1 ?_
  refine aw_callVI (pc := 6) (As := [.int 1]) hC mb_X10_read kw1409 (by decide) (c_X10_read G C.2.1   q1 1) (v0 (j := 12) (by decide)) rfl rfl rfl (Nat.le_of_ble_eq_true rfl) dX10_law_6 (fun q2 => ?_)
  refine aw_istore_n (pc := 9) (i := 1) hC dX10_law_9 rfl rfl (by decide) ?_
  refine aw_aload_n (pc := 10) (i := 0) hC dX10_law_10 rfl rfl ?_
  refine aw_aload_n (pc := 11) (i := 0) hC dX10_law_11 rfl rfl ?_
  refine aw_get (pc := 12) hC inX10 (v0 (j := 12) (by decide)) rfl rfl 12 (by decide) kw1326 rfl rfl dX10_law_12 ?_
  refine aw_iconst (pc := 15) (v := (-1)) hC dX10_law_15 icm1 ?_
  refine aw_nmJ (fun (J24 : Int32 → Option (Int32 × Mem)) => ∀ (x3 : Int32), AW G C (qI G C 0 0) 0 0 3 q2.2 24 [some (.ref (gad G 0 12)), some (.int q2.1), none] [.int x3, .ref (gad G 0 12)] (J24 x3)) (fun x3 => ?_) (fun J24 hJ24 => ?_)
  · skip
    refine aw_putIN (pc := 24) hC inX10 (v0 (j := 12) (by decide)) rfl rfl 0 (by decide) kw1314 rfl tyX10 tyX10_ok nmX10 rfl rfl (Nat.le_of_ble_eq_true rfl) rfl dX10_law_24 (fun μ4 => ?_)
    refine aw_aload_n (pc := 27) (i := 0) hC dX10_law_27 rfl rfl ?_
    refine aw_get (pc := 28) hC inX10 (v0 (j := 12) (by decide)) rfl rfl 0 (by decide) kw1314 rfl rfl dX10_law_28 ?_
    refine aw_if_le (pc := 31) (tgt := 36) hC dX10_law_31 (by decide) (fun _ => ?_) (fun _ => ?_)
    · skip
      refine aw_aload_n (pc := 36) (i := 0) hC dX10_law_36 rfl rfl ?_
      refine aw_get (pc := 37) hC inX10 (v0 (j := 12) (by decide)) rfl rfl 1 (by decide) kw1315 rfl rfl dX10_law_37 ?_
      refine aw_iconst (pc := 40) (v := 1) hC dX10_law_40 ic1 ?_
      refine aw_iload_n (pc := 41) (i := 1) hC dX10_law_41 rfl rfl ?_
      refine aw_iastoreN (pc := 42) hC (v0 (j := 13) (by decide)) (fun _ => rfl) dX10_law_42 (fun μ5 => ?_)
      refine aw_aload_n (pc := 43) (i := 0) hC dX10_law_43 rfl rfl ?_
      refine aw_get (pc := 44) hC inX10 (v0 (j := 12) (by decide)) rfl rfl 1 (by decide) kw1315 rfl rfl dX10_law_44 ?_
      refine aw_iconst (pc := 47) (v := 2) hC dX10_law_47 ic2 ?_
      refine aw_aload_n (pc := 48) (i := 0) hC dX10_law_48 rfl rfl ?_
      refine aw_get (pc := 49) hC inX10 (v0 (j := 12) (by decide)) rfl rfl 10 (by decide) kw1324 rfl rfl dX10_law_49 ?_
      refine aw_iastoreN (pc := 52) hC (v0 (j := 13) (by decide)) (fun _ => rfl) dX10_law_52 (fun μ6 => ?_)
      refine aw_iconst (pc := 53) (v := 0) hC dX10_law_53 ic0 ?_
      refine aw_istore_n (pc := 54) (i := 2) hC dX10_law_54 rfl rfl (by decide) ?_
      have hL55 : ∀ (k85 : Mem → Option (Int32 × Mem)) (hk85 : ∀ (μ7 : Mem), AW G C (qI G C 0 0) 0 0 3 μ7 85 [some (.ref (gad G 0 12)), some (.int q2.1), none] [] (k85 μ7)) (n : Nat) (x8 : Int32) (μ9 : Mem), AW G C (qI G C 0 0) 0 0 3 μ9 55 [some (.ref (gad G 0 12)), some (.int q2.1), some (.int x8)] [] (lp_X10_law_55 k85 n x8 μ9) := by
        intro k85 hk85 n
        induction n with
        | zero => intro x8 μ9; exact aw_none
        | succ n ih =>
          intro x8 μ9
          rw [lp_X10_law_55]
          refine aw_iload_n (pc := 55) (i := 2) hC dX10_law_55 rfl rfl ?_
          refine aw_aload_n (pc := 56) (i := 0) hC dX10_law_56 rfl rfl ?_
          refine aw_get (pc := 57) hC inX10 (v0 (j := 12) (by decide)) rfl rfl 10 (by decide) kw1324 rfl rfl dX10_law_57 ?_
          refine aw_icmp_ge (pc := 60) (tgt := 85) hC dX10_law_60 (by decide) (fun _ => ?_) (fun _ => ?_)
          · skip
            exact aw_drop [2] (hk85 μ9)
          · skip
            refine aw_aload_n (pc := 63) (i := 0) hC dX10_law_63 rfl rfl ?_
            refine aw_get (pc := 64) hC inX10 (v0 (j := 12) (by decide)) rfl rfl 1 (by decide) kw1315 rfl rfl dX10_law_64 ?_
            refine aw_sipush (pc := 67) (v := 304) hC dX10_law_67 sc304 ?_
            refine aw_iload_n (pc := 70) (i := 2) hC dX10_law_70 rfl rfl ?_
            refine aw_iadd (pc := 71) hC dX10_law_71 ?_
            refine aw_aload_n (pc := 72) (i := 0) hC dX10_law_72 rfl rfl ?_
            refine aw_get (pc := 73) hC inX10 (v0 (j := 12) (by decide)) rfl rfl 7 (by decide) kw1321 rfl rfl dX10_law_73 ?_
            refine aw_iload_n (pc := 76) (i := 2) hC dX10_law_76 rfl rfl ?_
            refine aw_iaload (pc := 77) hC (v0 (j := 17) (by decide)) rfl dX10_law_77 ?_
            refine aw_iastoreN (pc := 78) hC (v0 (j := 13) (by decide)) (fun _ => rfl) dX10_law_78 (fun μ10 => ?_)
            refine aw_iinc (pc := 79) (v := x8 + 1) hC dX10_law_79 rfl (congrArg (HAdd.hAdd _) ic1) rfl (by decide) ?_
            refine aw_goto (pc := 82) (tgt := 55) hC dX10_law_82 (by decide) ?_
            exact ih (x8 + 1) μ10
      refine hL55 (fun (μ7 : Mem) => nm (upm μ7 0 12 6 0) fun (μ11 : Mem) => some (q2.1, μ11)) (fun μ7 => ?_) 4096 0 μ6
      · skip
        refine aw_aload_n (pc := 85) (i := 0) hC dX10_law_85 rfl rfl ?_
        refine aw_iconst (pc := 86) (v := 0) hC dX10_law_86 ic0 ?_
        refine aw_putIN (pc := 87) hC inX10 (v0 (j := 12) (by decide)) rfl rfl 6 (by decide) kw1320 rfl tyX10 tyX10_ok nmX10 rfl rfl (Nat.le_of_ble_eq_true rfl) rfl dX10_law_87 (fun μ11 => ?_)
        refine aw_iload_n (pc := 90) (i := 1) hC dX10_law_90 rfl rfl ?_
        exact aw_iret hC dX10_law_91
    · skip
      refine aw_iconst (pc := 34) (v := 0) hC dX10_law_34 ic0 ?_
      exact aw_iret hC dX10_law_35
  · skip
    refine aw_icmp_eq (pc := 16) (tgt := 23) hC dX10_law_16 (by decide) (fun _ => ?_) (fun _ => ?_)
    · skip
      refine aw_iconst (pc := 23) (v := 0) hC dX10_law_23 ic0 ?_
      exact hJ24 0
    · skip
      refine aw_iconst (pc := 19) (v := 1) hC dX10_law_19 ic1 ?_
      refine aw_goto (pc := 20) (tgt := 24) hC dX10_law_20 (by decide) ?_
      exact hJ24 1
theorem dX10_fault_0 : decode cX10_fault 0 = .ok (.aload_n 0, 1) := by decide +kernel
theorem dX10_fault_1 : decode cX10_fault 1 = .ok (.iconst 0, 1) := by decide +kernel
theorem dX10_fault_2 : decode cX10_fault 2 = .ok (.putfield 42, 3) := by decide +kernel
theorem dX10_fault_5 : decode cX10_fault 5 = .ok (.aload_n 0, 1) := by decide +kernel
theorem dX10_fault_6 : decode cX10_fault 6 = .ok (.getfield 25, 3) := by decide +kernel
theorem dX10_fault_9 : decode cX10_fault 9 = .ok (.ireturn, 1) := by decide +kernel
def f_X10_fault (μ : Mem) : Option (Int32 × Mem) := nm (upm μ 0 12 0 0) fun (μ1 : Mem) => some ((μ1 0 12 12), μ1)
set_option maxHeartbeats 4000000 in
set_option maxRecDepth 100000 in
theorem c_X10_fault (G : GG) (l : Launch) (μ : Mem) : CI G l yX10_fault (.code yX10_fault cX10_fault 1 (some .int)) 1 [.ref (gad G 0 12)] μ (f_X10_fault μ) := by
  refine CI.of (own := "SaturdayKeepModel") (L0 := [some (.ref (gad G 0 12))]) rfl rfl rfl (Nat.le_of_ble_eq_true rfl) (fun C hl hC => ?_)
  subst hl
  delta f_X10_fault
  refine aw_aload_n (pc := 0) (i := 0) hC dX10_fault_0 rfl rfl ?_
  refine aw_iconst (pc := 1) (v := 0) hC dX10_fault_1 ic0 ?_
  refine aw_putIN (pc := 2) hC inX10 (v0 (j := 12) (by decide)) rfl rfl 0 (by decide) kw1314 rfl tyX10 tyX10_ok nmX10 rfl rfl (Nat.le_of_ble_eq_true rfl) rfl dX10_fault_2 (fun μ1 => ?_)
  refine aw_aload_n (pc := 5) (i := 0) hC dX10_fault_5 rfl rfl ?_
  refine aw_get (pc := 6) hC inX10 (v0 (j := 12) (by decide)) rfl rfl 12 (by decide) kw1326 rfl rfl dX10_fault_6 ?_
  exact aw_iret hC dX10_fault_9
theorem dX10_risk_0 : decode cX10_risk 0 = .ok (.aload_n 0, 1) := by decide +kernel
theorem dX10_risk_1 : decode cX10_risk 1 = .ok (.iload_n 1, 1) := by decide +kernel
theorem dX10_risk_2 : decode cX10_risk 2 = .ok (.iconst 2, 1) := by decide +kernel
theorem dX10_risk_3 : decode cX10_risk 3 = .ok (.invokevirtual 49, 3) := by decide +kernel
theorem dX10_risk_6 : decode cX10_risk 6 = .ok (.bipush 50, 2) := by decide +kernel
theorem dX10_risk_8 : decode cX10_risk 8 = .ok (.if_icmp .lt 12, 3) := by decide +kernel
theorem dX10_risk_11 : decode cX10_risk 11 = .ok (.aload_n 0, 1) := by decide +kernel
theorem dX10_risk_12 : decode cX10_risk 12 = .ok (.iload_n 1, 1) := by decide +kernel
theorem dX10_risk_13 : decode cX10_risk 13 = .ok (.iconst 1, 1) := by decide +kernel
theorem dX10_risk_14 : decode cX10_risk 14 = .ok (.invokevirtual 49, 3) := by decide +kernel
theorem dX10_risk_17 : decode cX10_risk 17 = .ok (.goto 11, 3) := by decide +kernel
theorem dX10_risk_20 : decode cX10_risk 20 = .ok (.aload_n 0, 1) := by decide +kernel
theorem dX10_risk_21 : decode cX10_risk 21 = .ok (.iload_n 1, 1) := by decide +kernel
theorem dX10_risk_22 : decode cX10_risk 22 = .ok (.iconst 1, 1) := by decide +kernel
theorem dX10_risk_23 : decode cX10_risk 23 = .ok (.invokevirtual 49, 3) := by decide +kernel
theorem dX10_risk_26 : decode cX10_risk 26 = .ok (.iconst 2, 1) := by decide +kernel
theorem dX10_risk_27 : decode cX10_risk 27 = .ok (.idiv, 1) := by decide +kernel
theorem dX10_risk_28 : decode cX10_risk 28 = .ok (.ireturn, 1) := by decide +kernel
def f_X10_risk (μ : Mem) (a1 : Int32) : Option (Int32) := (f_X10_of μ a1 2).bind fun (q1 : Int32) => if q1 < 50 then ((f_X10_of μ a1 1).bind fun (q2 : Int32) => some (q2 / 2)) else ((f_X10_of μ a1 1).bind fun (q3 : Int32) => some q3)
set_option maxHeartbeats 4000000 in
set_option maxRecDepth 100000 in
theorem c_X10_risk (G : GG) (l : Launch) (μ : Mem) (a1 : Int32) : CR G l yX10_risk (.code yX10_risk cX10_risk 2 (some .int)) 2 [.ref (gad G 0 12), .int a1] μ (f_X10_risk μ a1) := by
  refine CR.of (own := "SaturdayKeepModel") (L0 := [some (.ref (gad G 0 12)), some (.int a1)]) rfl rfl rfl (Nat.le_of_ble_eq_true rfl) (fun C hl hC => ?_)
  subst hl
  delta f_X10_risk
  refine aw_aload_n (pc := 0) (i := 0) hC dX10_risk_0 rfl rfl ?_
  refine aw_iload_n (pc := 1) (i := 1) hC dX10_risk_1 rfl rfl ?_
  refine aw_iconst (pc := 2) (v := 2) hC dX10_risk_2 ic2 ?_
  refine aw_callVR (pc := 3) (As := [.int a1, .int 2]) hC mb_X10_of kw1539 (by decide) (c_X10_of G C.2.1   μ a1 2) (v0 (j := 12) (by decide)) rfl rfl rfl (Nat.le_of_ble_eq_true rfl) dX10_risk_3 (fun q1 => ?_)
  refine aw_bipush (pc := 6) (v := 50) hC dX10_risk_6 bc50 ?_
  refine aw_icmp_lt (pc := 8) (tgt := 20) hC dX10_risk_8 (by decide) (fun _ => ?_) (fun _ => ?_)
  · skip
    refine aw_aload_n (pc := 20) (i := 0) hC dX10_risk_20 rfl rfl ?_
    refine aw_iload_n (pc := 21) (i := 1) hC dX10_risk_21 rfl rfl ?_
    refine aw_iconst (pc := 22) (v := 1) hC dX10_risk_22 ic1 ?_
    refine aw_callVR (pc := 23) (As := [.int a1, .int 1]) hC mb_X10_of kw1539 (by decide) (c_X10_of G C.2.1   μ a1 1) (v0 (j := 12) (by decide)) rfl rfl rfl (Nat.le_of_ble_eq_true rfl) dX10_risk_23 (fun q2 => ?_)
    refine aw_iconst (pc := 26) (v := 2) hC dX10_risk_26 ic2 ?_
    refine aw_idiv (pc := 27) hC dX10_risk_27 (by decide) ?_
    exact aw_iretR hC dX10_risk_28
  · skip
    refine aw_aload_n (pc := 11) (i := 0) hC dX10_risk_11 rfl rfl ?_
    refine aw_iload_n (pc := 12) (i := 1) hC dX10_risk_12 rfl rfl ?_
    refine aw_iconst (pc := 13) (v := 1) hC dX10_risk_13 ic1 ?_
    refine aw_callVR (pc := 14) (As := [.int a1, .int 1]) hC mb_X10_of kw1539 (by decide) (c_X10_of G C.2.1   μ a1 1) (v0 (j := 12) (by decide)) rfl rfl rfl (Nat.le_of_ble_eq_true rfl) dX10_risk_14 (fun q3 => ?_)
    refine aw_goto (pc := 17) (tgt := 28) hC dX10_risk_17 (by decide) ?_
    exact aw_iretR hC dX10_risk_28
theorem dX10_turnsBy_0 : decode cX10_turnsBy 0 = .ok (.aload_n 0, 1) := by decide +kernel
theorem dX10_turnsBy_1 : decode cX10_turnsBy 1 = .ok (.getfield 7, 3) := by decide +kernel
theorem dX10_turnsBy_4 : decode cX10_turnsBy 4 = .ok (.iconst 1, 1) := by decide +kernel
theorem dX10_turnsBy_5 : decode cX10_turnsBy 5 = .ok (.iaload, 1) := by decide +kernel
theorem dX10_turnsBy_6 : decode cX10_turnsBy 6 = .ok (.iconst (-1), 1) := by decide +kernel
theorem dX10_turnsBy_7 : decode cX10_turnsBy 7 = .ok (.if_icmp .ne 5, 3) := by decide +kernel
theorem dX10_turnsBy_10 : decode cX10_turnsBy 10 = .ok (.iconst 1, 1) := by decide +kernel
theorem dX10_turnsBy_11 : decode cX10_turnsBy 11 = .ok (.ireturn, 1) := by decide +kernel
theorem dX10_turnsBy_12 : decode cX10_turnsBy 12 = .ok (.aload_n 0, 1) := by decide +kernel
theorem dX10_turnsBy_13 : decode cX10_turnsBy 13 = .ok (.getfield 29, 3) := by decide +kernel
theorem dX10_turnsBy_16 : decode cX10_turnsBy 16 = .ok (.iconst 0, 1) := by decide +kernel
theorem dX10_turnsBy_17 : decode cX10_turnsBy 17 = .ok (.iload_n 1, 1) := by decide +kernel
theorem dX10_turnsBy_18 : decode cX10_turnsBy 18 = .ok (.iastore, 1) := by decide +kernel
theorem dX10_turnsBy_19 : decode cX10_turnsBy 19 = .ok (.aload_n 0, 1) := by decide +kernel
theorem dX10_turnsBy_20 : decode cX10_turnsBy 20 = .ok (.getfield 29, 3) := by decide +kernel
theorem dX10_turnsBy_23 : decode cX10_turnsBy 23 = .ok (.iconst 1, 1) := by decide +kernel
theorem dX10_turnsBy_24 : decode cX10_turnsBy 24 = .ok (.aload_n 0, 1) := by decide +kernel
theorem dX10_turnsBy_25 : decode cX10_turnsBy 25 = .ok (.iload_n 1, 1) := by decide +kernel
theorem dX10_turnsBy_26 : decode cX10_turnsBy 26 = .ok (.iconst 0, 1) := by decide +kernel
theorem dX10_turnsBy_27 : decode cX10_turnsBy 27 = .ok (.invokevirtual 49, 3) := by decide +kernel
theorem dX10_turnsBy_30 : decode cX10_turnsBy 30 = .ok (.iastore, 1) := by decide +kernel
theorem dX10_turnsBy_31 : decode cX10_turnsBy 31 = .ok (.aload_n 0, 1) := by decide +kernel
theorem dX10_turnsBy_32 : decode cX10_turnsBy 32 = .ok (.getfield 29, 3) := by decide +kernel
theorem dX10_turnsBy_35 : decode cX10_turnsBy 35 = .ok (.iconst 2, 1) := by decide +kernel
theorem dX10_turnsBy_36 : decode cX10_turnsBy 36 = .ok (.aload_n 0, 1) := by decide +kernel
theorem dX10_turnsBy_37 : decode cX10_turnsBy 37 = .ok (.iload_n 1, 1) := by decide +kernel
theorem dX10_turnsBy_38 : decode cX10_turnsBy 38 = .ok (.iconst 1, 1) := by decide +kernel
theorem dX10_turnsBy_39 : decode cX10_turnsBy 39 = .ok (.invokevirtual 49, 3) := by decide +kernel
theorem dX10_turnsBy_42 : decode cX10_turnsBy 42 = .ok (.iastore, 1) := by decide +kernel
theorem dX10_turnsBy_43 : decode cX10_turnsBy 43 = .ok (.aload_n 0, 1) := by decide +kernel
theorem dX10_turnsBy_44 : decode cX10_turnsBy 44 = .ok (.getfield 29, 3) := by decide +kernel
theorem dX10_turnsBy_47 : decode cX10_turnsBy 47 = .ok (.iconst 3, 1) := by decide +kernel
theorem dX10_turnsBy_48 : decode cX10_turnsBy 48 = .ok (.aload_n 0, 1) := by decide +kernel
theorem dX10_turnsBy_49 : decode cX10_turnsBy 49 = .ok (.iload_n 1, 1) := by decide +kernel
theorem dX10_turnsBy_50 : decode cX10_turnsBy 50 = .ok (.iconst 2, 1) := by decide +kernel
theorem dX10_turnsBy_51 : decode cX10_turnsBy 51 = .ok (.invokevirtual 49, 3) := by decide +kernel
theorem dX10_turnsBy_54 : decode cX10_turnsBy 54 = .ok (.iastore, 1) := by decide +kernel
theorem dX10_turnsBy_55 : decode cX10_turnsBy 55 = .ok (.aload_n 0, 1) := by decide +kernel
theorem dX10_turnsBy_56 : decode cX10_turnsBy 56 = .ok (.getfield 29, 3) := by decide +kernel
theorem dX10_turnsBy_59 : decode cX10_turnsBy 59 = .ok (.iconst 4, 1) := by decide +kernel
theorem dX10_turnsBy_60 : decode cX10_turnsBy 60 = .ok (.aload_n 0, 1) := by decide +kernel
theorem dX10_turnsBy_61 : decode cX10_turnsBy 61 = .ok (.getfield 7, 3) := by decide +kernel
theorem dX10_turnsBy_64 : decode cX10_turnsBy 64 = .ok (.bipush 8, 2) := by decide +kernel
theorem dX10_turnsBy_66 : decode cX10_turnsBy 66 = .ok (.iaload, 1) := by decide +kernel
theorem dX10_turnsBy_67 : decode cX10_turnsBy 67 = .ok (.iastore, 1) := by decide +kernel
theorem dX10_turnsBy_68 : decode cX10_turnsBy 68 = .ok (.aload_n 0, 1) := by decide +kernel
theorem dX10_turnsBy_69 : decode cX10_turnsBy 69 = .ok (.getfield 29, 3) := by decide +kernel
theorem dX10_turnsBy_72 : decode cX10_turnsBy 72 = .ok (.iconst 5, 1) := by decide +kernel
theorem dX10_turnsBy_73 : decode cX10_turnsBy 73 = .ok (.aload_n 0, 1) := by decide +kernel
theorem dX10_turnsBy_74 : decode cX10_turnsBy 74 = .ok (.getfield 7, 3) := by decide +kernel
theorem dX10_turnsBy_77 : decode cX10_turnsBy 77 = .ok (.bipush 16, 2) := by decide +kernel
theorem dX10_turnsBy_79 : decode cX10_turnsBy 79 = .ok (.aload_n 0, 1) := by decide +kernel
theorem dX10_turnsBy_80 : decode cX10_turnsBy 80 = .ok (.iload_n 1, 1) := by decide +kernel
theorem dX10_turnsBy_81 : decode cX10_turnsBy 81 = .ok (.iconst 0, 1) := by decide +kernel
theorem dX10_turnsBy_82 : decode cX10_turnsBy 82 = .ok (.invokevirtual 49, 3) := by decide +kernel
theorem dX10_turnsBy_85 : decode cX10_turnsBy 85 = .ok (.iadd, 1) := by decide +kernel
theorem dX10_turnsBy_86 : decode cX10_turnsBy 86 = .ok (.iaload, 1) := by decide +kernel
theorem dX10_turnsBy_87 : decode cX10_turnsBy 87 = .ok (.invokestatic 57, 3) := by decide +kernel
theorem dX10_turnsBy_90 : decode cX10_turnsBy 90 = .ok (.iastore, 1) := by decide +kernel
theorem dX10_turnsBy_91 : decode cX10_turnsBy 91 = .ok (.aload_n 0, 1) := by decide +kernel
theorem dX10_turnsBy_92 : decode cX10_turnsBy 92 = .ok (.getfield 29, 3) := by decide +kernel
theorem dX10_turnsBy_95 : decode cX10_turnsBy 95 = .ok (.bipush 6, 2) := by decide +kernel
theorem dX10_turnsBy_97 : decode cX10_turnsBy 97 = .ok (.aload_n 0, 1) := by decide +kernel
theorem dX10_turnsBy_98 : decode cX10_turnsBy 98 = .ok (.getfield 7, 3) := by decide +kernel
theorem dX10_turnsBy_101 : decode cX10_turnsBy 101 = .ok (.bipush 10, 2) := by decide +kernel
theorem dX10_turnsBy_103 : decode cX10_turnsBy 103 = .ok (.iaload, 1) := by decide +kernel
theorem dX10_turnsBy_104 : decode cX10_turnsBy 104 = .ok (.bipush 7, 2) := by decide +kernel
theorem dX10_turnsBy_106 : decode cX10_turnsBy 106 = .ok (.idiv, 1) := by decide +kernel
theorem dX10_turnsBy_107 : decode cX10_turnsBy 107 = .ok (.iastore, 1) := by decide +kernel
theorem dX10_turnsBy_108 : decode cX10_turnsBy 108 = .ok (.aload_n 0, 1) := by decide +kernel
theorem dX10_turnsBy_109 : decode cX10_turnsBy 109 = .ok (.aload_n 0, 1) := by decide +kernel
theorem dX10_turnsBy_110 : decode cX10_turnsBy 110 = .ok (.iload_n 1, 1) := by decide +kernel
theorem dX10_turnsBy_111 : decode cX10_turnsBy 111 = .ok (.iconst 3, 1) := by decide +kernel
theorem dX10_turnsBy_112 : decode cX10_turnsBy 112 = .ok (.invokevirtual 49, 3) := by decide +kernel
theorem dX10_turnsBy_115 : decode cX10_turnsBy 115 = .ok (.iconst 1, 1) := by decide +kernel
theorem dX10_turnsBy_116 : decode cX10_turnsBy 116 = .ok (.if_icmp .ne 7, 3) := by decide +kernel
theorem dX10_turnsBy_119 : decode cX10_turnsBy 119 = .ok (.iconst 1, 1) := by decide +kernel
theorem dX10_turnsBy_120 : decode cX10_turnsBy 120 = .ok (.goto 4, 3) := by decide +kernel
theorem dX10_turnsBy_123 : decode cX10_turnsBy 123 = .ok (.iconst 0, 1) := by decide +kernel
theorem dX10_turnsBy_124 : decode cX10_turnsBy 124 = .ok (.putfield 188, 3) := by decide +kernel
theorem dX10_turnsBy_127 : decode cX10_turnsBy 127 = .ok (.aload_n 0, 1) := by decide +kernel
theorem dX10_turnsBy_128 : decode cX10_turnsBy 128 = .ok (.aload_n 0, 1) := by decide +kernel
theorem dX10_turnsBy_129 : decode cX10_turnsBy 129 = .ok (.aload_n 0, 1) := by decide +kernel
theorem dX10_turnsBy_130 : decode cX10_turnsBy 130 = .ok (.getfield 7, 3) := by decide +kernel
theorem dX10_turnsBy_133 : decode cX10_turnsBy 133 = .ok (.iconst 5, 1) := by decide +kernel
theorem dX10_turnsBy_134 : decode cX10_turnsBy 134 = .ok (.iaload, 1) := by decide +kernel
theorem dX10_turnsBy_135 : decode cX10_turnsBy 135 = .ok (.aload_n 0, 1) := by decide +kernel
theorem dX10_turnsBy_136 : decode cX10_turnsBy 136 = .ok (.getfield 7, 3) := by decide +kernel
theorem dX10_turnsBy_139 : decode cX10_turnsBy 139 = .ok (.bipush 10, 2) := by decide +kernel
theorem dX10_turnsBy_141 : decode cX10_turnsBy 141 = .ok (.iaload, 1) := by decide +kernel
theorem dX10_turnsBy_142 : decode cX10_turnsBy 142 = .ok (.iconst 1, 1) := by decide +kernel
theorem dX10_turnsBy_143 : decode cX10_turnsBy 143 = .ok (.iadd, 1) := by decide +kernel
theorem dX10_turnsBy_144 : decode cX10_turnsBy 144 = .ok (.invokevirtual 226, 3) := by decide +kernel
theorem dX10_turnsBy_147 : decode cX10_turnsBy 147 = .ok (.putfield 194, 3) := by decide +kernel
theorem dX10_turnsBy_150 : decode cX10_turnsBy 150 = .ok (.aload_n 0, 1) := by decide +kernel
theorem dX10_turnsBy_151 : decode cX10_turnsBy 151 = .ok (.iconst 0, 1) := by decide +kernel
theorem dX10_turnsBy_152 : decode cX10_turnsBy 152 = .ok (.putfield 223, 3) := by decide +kernel
theorem dX10_turnsBy_155 : decode cX10_turnsBy 155 = .ok (.aload_n 0, 1) := by decide +kernel
theorem dX10_turnsBy_156 : decode cX10_turnsBy 156 = .ok (.getfield 25, 3) := by decide +kernel
theorem dX10_turnsBy_159 : decode cX10_turnsBy 159 = .ok (.istore_n 2, 1) := by decide +kernel
theorem dX10_turnsBy_160 : decode cX10_turnsBy 160 = .ok (.aload_n 0, 1) := by decide +kernel
theorem dX10_turnsBy_161 : decode cX10_turnsBy 161 = .ok (.iconst (-1), 1) := by decide +kernel
theorem dX10_turnsBy_162 : decode cX10_turnsBy 162 = .ok (.putfield 25, 3) := by decide +kernel
theorem dX10_turnsBy_165 : decode cX10_turnsBy 165 = .ok (.aload_n 0, 1) := by decide +kernel
theorem dX10_turnsBy_166 : decode cX10_turnsBy 166 = .ok (.sipush 304, 3) := by decide +kernel
theorem dX10_turnsBy_169 : decode cX10_turnsBy 169 = .ok (.putfield 64, 3) := by decide +kernel
theorem dX10_turnsBy_172 : decode cX10_turnsBy 172 = .ok (.aload_n 0, 1) := by decide +kernel
theorem dX10_turnsBy_173 : decode cX10_turnsBy 173 = .ok (.aload_n 0, 1) := by decide +kernel
theorem dX10_turnsBy_174 : decode cX10_turnsBy 174 = .ok (.getfield 7, 3) := by decide +kernel
theorem dX10_turnsBy_177 : decode cX10_turnsBy 177 = .ok (.iconst 2, 1) := by decide +kernel
theorem dX10_turnsBy_178 : decode cX10_turnsBy 178 = .ok (.iaload, 1) := by decide +kernel
theorem dX10_turnsBy_179 : decode cX10_turnsBy 179 = .ok (.putfield 70, 3) := by decide +kernel
theorem dX10_turnsBy_182 : decode cX10_turnsBy 182 = .ok (.aload_n 0, 1) := by decide +kernel
theorem dX10_turnsBy_183 : decode cX10_turnsBy 183 = .ok (.iconst 0, 1) := by decide +kernel
theorem dX10_turnsBy_184 : decode cX10_turnsBy 184 = .ok (.putfield 67, 3) := by decide +kernel
theorem dX10_turnsBy_187 : decode cX10_turnsBy 187 = .ok (.aload_n 0, 1) := by decide +kernel
theorem dX10_turnsBy_188 : decode cX10_turnsBy 188 = .ok (.iconst 0, 1) := by decide +kernel
theorem dX10_turnsBy_189 : decode cX10_turnsBy 189 = .ok (.putfield 146, 3) := by decide +kernel
theorem dX10_turnsBy_192 : decode cX10_turnsBy 192 = .ok (.aload_n 0, 1) := by decide +kernel
theorem dX10_turnsBy_193 : decode cX10_turnsBy 193 = .ok (.iconst 1, 1) := by decide +kernel
theorem dX10_turnsBy_194 : decode cX10_turnsBy 194 = .ok (.invokevirtual 165, 3) := by decide +kernel
theorem dX10_turnsBy_197 : decode cX10_turnsBy 197 = .ok (.istore_n 3, 1) := by decide +kernel
theorem dX10_turnsBy_198 : decode cX10_turnsBy 198 = .ok (.aload_n 0, 1) := by decide +kernel
theorem dX10_turnsBy_199 : decode cX10_turnsBy 199 = .ok (.iload_n 2, 1) := by decide +kernel
theorem dX10_turnsBy_200 : decode cX10_turnsBy 200 = .ok (.putfield 25, 3) := by decide +kernel
theorem dX10_turnsBy_203 : decode cX10_turnsBy 203 = .ok (.aload_n 0, 1) := by decide +kernel
theorem dX10_turnsBy_204 : decode cX10_turnsBy 204 = .ok (.getfield 223, 3) := by decide +kernel
theorem dX10_turnsBy_207 : decode cX10_turnsBy 207 = .ok (.ireturn, 1) := by decide +kernel
def f_X10_turnsBy (μ : Mem) (a1 : Int32) : Option (Int32 × Mem) := ix 1 704 (if (μ 0 13 (Int32.toNatClampNeg 1)) = (-1) then (some (1, μ)) else (ix 0 7 (nm (upm μ 0 18 (Int32.toNatClampNeg 0) a1) fun (μ1 : Mem) => (f_X10_of μ1 a1 0).bind fun (q2 : Int32) => ix 1 7 (nm (upm μ1 0 18 (Int32.toNatClampNeg 1) q2) fun (μ3 : Mem) => (f_X10_of μ3 a1 1).bind fun (q4 : Int32) => ix 2 7 (nm (upm μ3 0 18 (Int32.toNatClampNeg 2) q4) fun (μ5 : Mem) => (f_X10_of μ5 a1 2).bind fun (q6 : Int32) => ix 3 7 (nm (upm μ5 0 18 (Int32.toNatClampNeg 3) q6) fun (μ7 : Mem) => ix 8 704 (ix 4 7 (nm (upm μ7 0 18 (Int32.toNatClampNeg 4) (μ7 0 13 (Int32.toNatClampNeg 8))) fun (μ8 : Mem) => (f_X10_of μ8 a1 0).bind fun (q9 : Int32) => ix (16 + q9) 704 ((f_X10_bits (μ8 0 13 (16 + q9).toNatClampNeg)).bind fun (q10 : Int32) => ix 5 7 (nm (upm μ8 0 18 (Int32.toNatClampNeg 5) q10) fun (μ11 : Mem) => ix 10 704 (ix 6 7 (nm (upm μ11 0 18 (Int32.toNatClampNeg 6) ((μ11 0 13 (Int32.toNatClampNeg 10)) / 7)) fun (μ12 : Mem) => (f_X10_of μ12 a1 3).bind fun (q13 : Int32) => nm (fun (x14 : Int32) => bk x14 (nm (upm μ12 0 12 15 x14) fun (μ15 : Mem) => ix 5 704 (ix 10 704 ((f_X10_isSaturday μ15 (μ15 0 13 (Int32.toNatClampNeg 5)) ((μ15 0 13 (Int32.toNatClampNeg 10)) + 1)).bind fun (q16 : Int32) => bk q16 (nm (upm μ15 0 12 16 q16) fun (μ17 : Mem) => nm (upm μ17 0 12 17 0) fun (μ18 : Mem) => nm (upm μ18 0 12 12 (-1)) fun (μ19 : Mem) => nm (upm μ19 0 12 9 304) fun (μ20 : Mem) => ix 2 704 (nm (upm μ20 0 12 10 (μ20 0 13 (Int32.toNatClampNeg 2))) fun (μ21 : Mem) => nm (upm μ21 0 12 11 0) fun (μ22 : Mem) => nm (upm μ22 0 12 13 0) fun (μ23 : Mem) => (f_X10_read μ23 1).bind fun (q24 : Int32 × Mem) => nm (upm q24.2 0 12 12 (μ18 0 12 12)) fun (μ25 : Mem) => some ((μ25 0 12 17), μ25))))))) fun (J124 : Int32 → Option (Int32 × Mem)) => if q13 = 1 then (J124 1) else (J124 0)))))))))))))
set_option maxHeartbeats 4000000 in
set_option maxRecDepth 100000 in
theorem c_X10_turnsBy (G : GG) (l : Launch) (μ : Mem) (a1 : Int32) : CI G l yX10_turnsBy (.code yX10_turnsBy cX10_turnsBy 4 (some .int)) 57 [.ref (gad G 0 12), .int a1] μ (f_X10_turnsBy μ a1) := by
  refine CI.of (own := "SaturdayKeepModel") (L0 := [some (.ref (gad G 0 12)), some (.int a1), none, none]) rfl rfl rfl (Nat.le_of_ble_eq_true rfl) (fun C hl hC => ?_)
  subst hl
  delta f_X10_turnsBy
  refine aw_aload_n (pc := 0) (i := 0) hC dX10_turnsBy_0 rfl rfl ?_
  refine aw_get (pc := 1) hC inX10 (v0 (j := 12) (by decide)) rfl rfl 1 (by decide) kw1315 rfl rfl dX10_turnsBy_1 ?_
  refine aw_iconst (pc := 4) (v := 1) hC dX10_turnsBy_4 ic1 ?_
  refine aw_iaload (pc := 5) hC (v0 (j := 13) (by decide)) rfl dX10_turnsBy_5 ?_
  refine aw_iconst (pc := 6) (v := (-1)) hC dX10_turnsBy_6 icm1 ?_
  refine aw_icmp_ne (pc := 7) (tgt := 12) hC dX10_turnsBy_7 (by decide) (fun _ => ?_) (fun _ => ?_)
  · skip
    refine aw_iconst (pc := 10) (v := 1) hC dX10_turnsBy_10 ic1 ?_
    exact aw_iret hC dX10_turnsBy_11
  · skip
    refine aw_aload_n (pc := 12) (i := 0) hC dX10_turnsBy_12 rfl rfl ?_
    refine aw_get (pc := 13) hC inX10 (v0 (j := 12) (by decide)) rfl rfl 14 (by decide) kw1328 rfl rfl dX10_turnsBy_13 ?_
    refine aw_iconst (pc := 16) (v := 0) hC dX10_turnsBy_16 ic0 ?_
    refine aw_iload_n (pc := 17) (i := 1) hC dX10_turnsBy_17 rfl rfl ?_
    refine aw_iastoreN (pc := 18) hC (v0 (j := 18) (by decide)) (fun _ => rfl) dX10_turnsBy_18 (fun μ1 => ?_)
    refine aw_aload_n (pc := 19) (i := 0) hC dX10_turnsBy_19 rfl rfl ?_
    refine aw_get (pc := 20) hC inX10 (v0 (j := 12) (by decide)) rfl rfl 14 (by decide) kw1328 rfl rfl dX10_turnsBy_20 ?_
    refine aw_iconst (pc := 23) (v := 1) hC dX10_turnsBy_23 ic1 ?_
    refine aw_aload_n (pc := 24) (i := 0) hC dX10_turnsBy_24 rfl rfl ?_
    refine aw_iload_n (pc := 25) (i := 1) hC dX10_turnsBy_25 rfl rfl ?_
    refine aw_iconst (pc := 26) (v := 0) hC dX10_turnsBy_26 ic0 ?_
    refine aw_callVR (pc := 27) (As := [.int a1, .int 0]) hC mb_X10_of kw1539 (by decide) (c_X10_of G C.2.1   μ1 a1 0) (v0 (j := 12) (by decide)) rfl rfl rfl (Nat.le_of_ble_eq_true rfl) dX10_turnsBy_27 (fun q2 => ?_)
    refine aw_iastoreN (pc := 30) hC (v0 (j := 18) (by decide)) (fun _ => rfl) dX10_turnsBy_30 (fun μ3 => ?_)
    refine aw_aload_n (pc := 31) (i := 0) hC dX10_turnsBy_31 rfl rfl ?_
    refine aw_get (pc := 32) hC inX10 (v0 (j := 12) (by decide)) rfl rfl 14 (by decide) kw1328 rfl rfl dX10_turnsBy_32 ?_
    refine aw_iconst (pc := 35) (v := 2) hC dX10_turnsBy_35 ic2 ?_
    refine aw_aload_n (pc := 36) (i := 0) hC dX10_turnsBy_36 rfl rfl ?_
    refine aw_iload_n (pc := 37) (i := 1) hC dX10_turnsBy_37 rfl rfl ?_
    refine aw_iconst (pc := 38) (v := 1) hC dX10_turnsBy_38 ic1 ?_
    refine aw_callVR (pc := 39) (As := [.int a1, .int 1]) hC mb_X10_of kw1539 (by decide) (c_X10_of G C.2.1   μ3 a1 1) (v0 (j := 12) (by decide)) rfl rfl rfl (Nat.le_of_ble_eq_true rfl) dX10_turnsBy_39 (fun q4 => ?_)
    refine aw_iastoreN (pc := 42) hC (v0 (j := 18) (by decide)) (fun _ => rfl) dX10_turnsBy_42 (fun μ5 => ?_)
    refine aw_aload_n (pc := 43) (i := 0) hC dX10_turnsBy_43 rfl rfl ?_
    refine aw_get (pc := 44) hC inX10 (v0 (j := 12) (by decide)) rfl rfl 14 (by decide) kw1328 rfl rfl dX10_turnsBy_44 ?_
    refine aw_iconst (pc := 47) (v := 3) hC dX10_turnsBy_47 ic3 ?_
    refine aw_aload_n (pc := 48) (i := 0) hC dX10_turnsBy_48 rfl rfl ?_
    refine aw_iload_n (pc := 49) (i := 1) hC dX10_turnsBy_49 rfl rfl ?_
    refine aw_iconst (pc := 50) (v := 2) hC dX10_turnsBy_50 ic2 ?_
    refine aw_callVR (pc := 51) (As := [.int a1, .int 2]) hC mb_X10_of kw1539 (by decide) (c_X10_of G C.2.1   μ5 a1 2) (v0 (j := 12) (by decide)) rfl rfl rfl (Nat.le_of_ble_eq_true rfl) dX10_turnsBy_51 (fun q6 => ?_)
    refine aw_iastoreN (pc := 54) hC (v0 (j := 18) (by decide)) (fun _ => rfl) dX10_turnsBy_54 (fun μ7 => ?_)
    refine aw_aload_n (pc := 55) (i := 0) hC dX10_turnsBy_55 rfl rfl ?_
    refine aw_get (pc := 56) hC inX10 (v0 (j := 12) (by decide)) rfl rfl 14 (by decide) kw1328 rfl rfl dX10_turnsBy_56 ?_
    refine aw_iconst (pc := 59) (v := 4) hC dX10_turnsBy_59 ic4 ?_
    refine aw_aload_n (pc := 60) (i := 0) hC dX10_turnsBy_60 rfl rfl ?_
    refine aw_get (pc := 61) hC inX10 (v0 (j := 12) (by decide)) rfl rfl 1 (by decide) kw1315 rfl rfl dX10_turnsBy_61 ?_
    refine aw_bipush (pc := 64) (v := 8) hC dX10_turnsBy_64 bc8 ?_
    refine aw_iaload (pc := 66) hC (v0 (j := 13) (by decide)) rfl dX10_turnsBy_66 ?_
    refine aw_iastoreN (pc := 67) hC (v0 (j := 18) (by decide)) (fun _ => rfl) dX10_turnsBy_67 (fun μ8 => ?_)
    refine aw_aload_n (pc := 68) (i := 0) hC dX10_turnsBy_68 rfl rfl ?_
    refine aw_get (pc := 69) hC inX10 (v0 (j := 12) (by decide)) rfl rfl 14 (by decide) kw1328 rfl rfl dX10_turnsBy_69 ?_
    refine aw_iconst (pc := 72) (v := 5) hC dX10_turnsBy_72 ic5 ?_
    refine aw_aload_n (pc := 73) (i := 0) hC dX10_turnsBy_73 rfl rfl ?_
    refine aw_get (pc := 74) hC inX10 (v0 (j := 12) (by decide)) rfl rfl 1 (by decide) kw1315 rfl rfl dX10_turnsBy_74 ?_
    refine aw_bipush (pc := 77) (v := 16) hC dX10_turnsBy_77 bc16 ?_
    refine aw_aload_n (pc := 79) (i := 0) hC dX10_turnsBy_79 rfl rfl ?_
    refine aw_iload_n (pc := 80) (i := 1) hC dX10_turnsBy_80 rfl rfl ?_
    refine aw_iconst (pc := 81) (v := 0) hC dX10_turnsBy_81 ic0 ?_
    refine aw_callVR (pc := 82) (As := [.int a1, .int 0]) hC mb_X10_of kw1539 (by decide) (c_X10_of G C.2.1   μ8 a1 0) (v0 (j := 12) (by decide)) rfl rfl rfl (Nat.le_of_ble_eq_true rfl) dX10_turnsBy_82 (fun q9 => ?_)
    refine aw_iadd (pc := 85) hC dX10_turnsBy_85 ?_
    refine aw_iaload (pc := 86) hC (v0 (j := 13) (by decide)) rfl dX10_turnsBy_86 ?_
    refine aw_callSR (pc := 87) (As := [.int (μ8 0 13 (16 + q9).toNatClampNeg)]) hC ms_X10_bits kw1551 (by decide) (c_X10_bits G C.2.1   μ8 (μ8 0 13 (16 + q9).toNatClampNeg)) rfl (Nat.le_of_ble_eq_true rfl) dX10_turnsBy_87 (fun q10 => ?_)
    refine aw_iastoreN (pc := 90) hC (v0 (j := 18) (by decide)) (fun _ => rfl) dX10_turnsBy_90 (fun μ11 => ?_)
    refine aw_aload_n (pc := 91) (i := 0) hC dX10_turnsBy_91 rfl rfl ?_
    refine aw_get (pc := 92) hC inX10 (v0 (j := 12) (by decide)) rfl rfl 14 (by decide) kw1328 rfl rfl dX10_turnsBy_92 ?_
    refine aw_bipush (pc := 95) (v := 6) hC dX10_turnsBy_95 bc6 ?_
    refine aw_aload_n (pc := 97) (i := 0) hC dX10_turnsBy_97 rfl rfl ?_
    refine aw_get (pc := 98) hC inX10 (v0 (j := 12) (by decide)) rfl rfl 1 (by decide) kw1315 rfl rfl dX10_turnsBy_98 ?_
    refine aw_bipush (pc := 101) (v := 10) hC dX10_turnsBy_101 bc10 ?_
    refine aw_iaload (pc := 103) hC (v0 (j := 13) (by decide)) rfl dX10_turnsBy_103 ?_
    refine aw_bipush (pc := 104) (v := 7) hC dX10_turnsBy_104 bc7 ?_
    refine aw_idiv (pc := 106) hC dX10_turnsBy_106 (by decide) ?_
    refine aw_iastoreN (pc := 107) hC (v0 (j := 18) (by decide)) (fun _ => rfl) dX10_turnsBy_107 (fun μ12 => ?_)
    refine aw_aload_n (pc := 108) (i := 0) hC dX10_turnsBy_108 rfl rfl ?_
    refine aw_aload_n (pc := 109) (i := 0) hC dX10_turnsBy_109 rfl rfl ?_
    refine aw_iload_n (pc := 110) (i := 1) hC dX10_turnsBy_110 rfl rfl ?_
    refine aw_iconst (pc := 111) (v := 3) hC dX10_turnsBy_111 ic3 ?_
    refine aw_callVR (pc := 112) (As := [.int a1, .int 3]) hC mb_X10_of kw1539 (by decide) (c_X10_of G C.2.1   μ12 a1 3) (v0 (j := 12) (by decide)) rfl rfl rfl (Nat.le_of_ble_eq_true rfl) dX10_turnsBy_112 (fun q13 => ?_)
    refine aw_iconst (pc := 115) (v := 1) hC dX10_turnsBy_115 ic1 ?_
    refine aw_nmJ (fun (J124 : Int32 → Option (Int32 × Mem)) => ∀ (x14 : Int32), AW G C (qI G C 0 0) 0 0 4 μ12 124 [some (.ref (gad G 0 12)), none, none, none] [.int x14, .ref (gad G 0 12)] (J124 x14)) (fun x14 => ?_) (fun J124 hJ124 => ?_)
    · skip
      refine aw_putZN (pc := 124) hC inX10 (v0 (j := 12) (by decide)) rfl rfl 15 (by decide) kw1329 rfl tyX10 tyX10_ok nmX10 rfl rfl (Nat.le_of_ble_eq_true rfl) rfl dX10_turnsBy_124 (fun μ15 => ?_)
      refine aw_aload_n (pc := 127) (i := 0) hC dX10_turnsBy_127 rfl rfl ?_
      refine aw_aload_n (pc := 128) (i := 0) hC dX10_turnsBy_128 rfl rfl ?_
      refine aw_aload_n (pc := 129) (i := 0) hC dX10_turnsBy_129 rfl rfl ?_
      refine aw_get (pc := 130) hC inX10 (v0 (j := 12) (by decide)) rfl rfl 1 (by decide) kw1315 rfl rfl dX10_turnsBy_130 ?_
      refine aw_iconst (pc := 133) (v := 5) hC dX10_turnsBy_133 ic5 ?_
      refine aw_iaload (pc := 134) hC (v0 (j := 13) (by decide)) rfl dX10_turnsBy_134 ?_
      refine aw_aload_n (pc := 135) (i := 0) hC dX10_turnsBy_135 rfl rfl ?_
      refine aw_get (pc := 136) hC inX10 (v0 (j := 12) (by decide)) rfl rfl 1 (by decide) kw1315 rfl rfl dX10_turnsBy_136 ?_
      refine aw_bipush (pc := 139) (v := 10) hC dX10_turnsBy_139 bc10 ?_
      refine aw_iaload (pc := 141) hC (v0 (j := 13) (by decide)) rfl dX10_turnsBy_141 ?_
      refine aw_iconst (pc := 142) (v := 1) hC dX10_turnsBy_142 ic1 ?_
      refine aw_iadd (pc := 143) hC dX10_turnsBy_143 ?_
      refine aw_callVR (pc := 144) (As := [.int (μ15 0 13 (Int32.toNatClampNeg 5)), .int ((μ15 0 13 (Int32.toNatClampNeg 10)) + 1)]) hC mb_X10_isSaturday kw1554 (by decide) (c_X10_isSaturday G C.2.1   μ15 (μ15 0 13 (Int32.toNatClampNeg 5)) ((μ15 0 13 (Int32.toNatClampNeg 10)) + 1)) (v0 (j := 12) (by decide)) rfl rfl rfl (Nat.le_of_ble_eq_true rfl) dX10_turnsBy_144 (fun q16 => ?_)
      refine aw_putZN (pc := 147) hC inX10 (v0 (j := 12) (by decide)) rfl rfl 16 (by decide) kw1330 rfl tyX10 tyX10_ok nmX10 rfl rfl (Nat.le_of_ble_eq_true rfl) rfl dX10_turnsBy_147 (fun μ17 => ?_)
      refine aw_aload_n (pc := 150) (i := 0) hC dX10_turnsBy_150 rfl rfl ?_
      refine aw_iconst (pc := 151) (v := 0) hC dX10_turnsBy_151 ic0 ?_
      refine aw_putIN (pc := 152) hC inX10 (v0 (j := 12) (by decide)) rfl rfl 17 (by decide) kw1331 rfl tyX10 tyX10_ok nmX10 rfl rfl (Nat.le_of_ble_eq_true rfl) rfl dX10_turnsBy_152 (fun μ18 => ?_)
      refine aw_aload_n (pc := 155) (i := 0) hC dX10_turnsBy_155 rfl rfl ?_
      refine aw_get (pc := 156) hC inX10 (v0 (j := 12) (by decide)) rfl rfl 12 (by decide) kw1326 rfl rfl dX10_turnsBy_156 ?_
      refine aw_istore_n (pc := 159) (i := 2) hC dX10_turnsBy_159 rfl rfl (by decide) ?_
      refine aw_aload_n (pc := 160) (i := 0) hC dX10_turnsBy_160 rfl rfl ?_
      refine aw_iconst (pc := 161) (v := (-1)) hC dX10_turnsBy_161 icm1 ?_
      refine aw_putIN (pc := 162) hC inX10 (v0 (j := 12) (by decide)) rfl rfl 12 (by decide) kw1326 rfl tyX10 tyX10_ok nmX10 rfl rfl (Nat.le_of_ble_eq_true rfl) rfl dX10_turnsBy_162 (fun μ19 => ?_)
      refine aw_aload_n (pc := 165) (i := 0) hC dX10_turnsBy_165 rfl rfl ?_
      refine aw_sipush (pc := 166) (v := 304) hC dX10_turnsBy_166 sc304 ?_
      refine aw_putIN (pc := 169) hC inX10 (v0 (j := 12) (by decide)) rfl rfl 9 (by decide) kw1323 rfl tyX10 tyX10_ok nmX10 rfl rfl (Nat.le_of_ble_eq_true rfl) rfl dX10_turnsBy_169 (fun μ20 => ?_)
      refine aw_aload_n (pc := 172) (i := 0) hC dX10_turnsBy_172 rfl rfl ?_
      refine aw_aload_n (pc := 173) (i := 0) hC dX10_turnsBy_173 rfl rfl ?_
      refine aw_get (pc := 174) hC inX10 (v0 (j := 12) (by decide)) rfl rfl 1 (by decide) kw1315 rfl rfl dX10_turnsBy_174 ?_
      refine aw_iconst (pc := 177) (v := 2) hC dX10_turnsBy_177 ic2 ?_
      refine aw_iaload (pc := 178) hC (v0 (j := 13) (by decide)) rfl dX10_turnsBy_178 ?_
      refine aw_putIN (pc := 179) hC inX10 (v0 (j := 12) (by decide)) rfl rfl 10 (by decide) kw1324 rfl tyX10 tyX10_ok nmX10 rfl rfl (Nat.le_of_ble_eq_true rfl) rfl dX10_turnsBy_179 (fun μ21 => ?_)
      refine aw_aload_n (pc := 182) (i := 0) hC dX10_turnsBy_182 rfl rfl ?_
      refine aw_iconst (pc := 183) (v := 0) hC dX10_turnsBy_183 ic0 ?_
      refine aw_putIN (pc := 184) hC inX10 (v0 (j := 12) (by decide)) rfl rfl 11 (by decide) kw1325 rfl tyX10 tyX10_ok nmX10 rfl rfl (Nat.le_of_ble_eq_true rfl) rfl dX10_turnsBy_184 (fun μ22 => ?_)
      refine aw_aload_n (pc := 187) (i := 0) hC dX10_turnsBy_187 rfl rfl ?_
      refine aw_iconst (pc := 188) (v := 0) hC dX10_turnsBy_188 ic0 ?_
      refine aw_putIN (pc := 189) hC inX10 (v0 (j := 12) (by decide)) rfl rfl 13 (by decide) kw1327 rfl tyX10 tyX10_ok nmX10 rfl rfl (Nat.le_of_ble_eq_true rfl) rfl dX10_turnsBy_189 (fun μ23 => ?_)
      refine aw_aload_n (pc := 192) (i := 0) hC dX10_turnsBy_192 rfl rfl ?_
      refine aw_iconst (pc := 193) (v := 1) hC dX10_turnsBy_193 ic1 ?_
      refine aw_callVI (pc := 194) (As := [.int 1]) hC mb_X10_read kw1409 (by decide) (c_X10_read G C.2.1   μ23 1) (v0 (j := 12) (by decide)) rfl rfl rfl (Nat.le_of_ble_eq_true rfl) dX10_turnsBy_194 (fun q24 => ?_)
      refine aw_istore_n (pc := 197) (i := 3) hC dX10_turnsBy_197 rfl rfl (by decide) ?_
      refine aw_aload_n (pc := 198) (i := 0) hC dX10_turnsBy_198 rfl rfl ?_
      refine aw_iload_n (pc := 199) (i := 2) hC dX10_turnsBy_199 rfl rfl ?_
      refine aw_putIN (pc := 200) hC inX10 (v0 (j := 12) (by decide)) rfl rfl 12 (by decide) kw1326 rfl tyX10 tyX10_ok nmX10 rfl rfl (Nat.le_of_ble_eq_true rfl) rfl dX10_turnsBy_200 (fun μ25 => ?_)
      refine aw_aload_n (pc := 203) (i := 0) hC dX10_turnsBy_203 rfl rfl ?_
      refine aw_get (pc := 204) hC inX10 (v0 (j := 12) (by decide)) rfl rfl 17 (by decide) kw1331 rfl rfl dX10_turnsBy_204 ?_
      exact aw_iret hC dX10_turnsBy_207
    · skip
      refine aw_icmp_ne (pc := 116) (tgt := 123) hC dX10_turnsBy_116 (by decide) (fun _ => ?_) (fun _ => ?_)
      · skip
        refine aw_iconst (pc := 119) (v := 1) hC dX10_turnsBy_119 ic1 ?_
        refine aw_goto (pc := 120) (tgt := 124) hC dX10_turnsBy_120 (by decide) ?_
        exact aw_drop [1] (hJ124 1)
      · skip
        refine aw_iconst (pc := 123) (v := 0) hC dX10_turnsBy_123 ic0 ?_
        exact aw_drop [1] (hJ124 0)
theorem dX10_doubts_0 : decode cX10_doubts 0 = .ok (.iconst 0, 1) := by decide +kernel
theorem dX10_doubts_1 : decode cX10_doubts 1 = .ok (.istore_n 1, 1) := by decide +kernel
theorem dX10_doubts_2 : decode cX10_doubts 2 = .ok (.iconst 0, 1) := by decide +kernel
theorem dX10_doubts_3 : decode cX10_doubts 3 = .ok (.istore_n 2, 1) := by decide +kernel
theorem dX10_doubts_4 : decode cX10_doubts 4 = .ok (.iload_n 2, 1) := by decide +kernel
theorem dX10_doubts_5 : decode cX10_doubts 5 = .ok (.aload_n 0, 1) := by decide +kernel
theorem dX10_doubts_6 : decode cX10_doubts 6 = .ok (.getfield 7, 3) := by decide +kernel
theorem dX10_doubts_9 : decode cX10_doubts 9 = .ok (.iconst 3, 1) := by decide +kernel
theorem dX10_doubts_10 : decode cX10_doubts 10 = .ok (.iaload, 1) := by decide +kernel
theorem dX10_doubts_11 : decode cX10_doubts 11 = .ok (.if_icmp .ge 30, 3) := by decide +kernel
theorem dX10_doubts_14 : decode cX10_doubts 14 = .ok (.iload_n 1, 1) := by decide +kernel
theorem dX10_doubts_15 : decode cX10_doubts 15 = .ok (.aload_n 0, 1) := by decide +kernel
theorem dX10_doubts_16 : decode cX10_doubts 16 = .ok (.iload_n 2, 1) := by decide +kernel
theorem dX10_doubts_17 : decode cX10_doubts 17 = .ok (.invokevirtual 236, 3) := by decide +kernel
theorem dX10_doubts_20 : decode cX10_doubts 20 = .ok (.ifCond .eq 12, 3) := by decide +kernel
theorem dX10_doubts_23 : decode cX10_doubts 23 = .ok (.aload_n 0, 1) := by decide +kernel
theorem dX10_doubts_24 : decode cX10_doubts 24 = .ok (.iload_n 2, 1) := by decide +kernel
theorem dX10_doubts_25 : decode cX10_doubts 25 = .ok (.iconst 2, 1) := by decide +kernel
theorem dX10_doubts_26 : decode cX10_doubts 26 = .ok (.invokevirtual 49, 3) := by decide +kernel
theorem dX10_doubts_29 : decode cX10_doubts 29 = .ok (.goto 4, 3) := by decide +kernel
theorem dX10_doubts_32 : decode cX10_doubts 32 = .ok (.iconst 0, 1) := by decide +kernel
theorem dX10_doubts_33 : decode cX10_doubts 33 = .ok (.iadd, 1) := by decide +kernel
theorem dX10_doubts_34 : decode cX10_doubts 34 = .ok (.istore_n 1, 1) := by decide +kernel
theorem dX10_doubts_35 : decode cX10_doubts 35 = .ok (.iinc 2 1, 3) := by decide +kernel
theorem dX10_doubts_38 : decode cX10_doubts 38 = .ok (.goto (-34), 3) := by decide +kernel
theorem dX10_doubts_41 : decode cX10_doubts 41 = .ok (.iload_n 1, 1) := by decide +kernel
theorem dX10_doubts_42 : decode cX10_doubts 42 = .ok (.ireturn, 1) := by decide +kernel
def lp_X10_doubts_4 (μ : Mem) : Nat → Int32 → Int32 → Option (Int32)
  | 0, _, _ => none
  | n + 1, x1, x2 => ix 3 704 (if (μ 0 13 (Int32.toNatClampNeg 3)) ≤ x2 then (some x1) else ((f_X10_isHere μ x2).bind fun (q3 : Int32) => if q3 = 0 then (lp_X10_doubts_4 μ n (x1 + 0) (x2 + 1)) else ((f_X10_of μ x2 2).bind fun (q4 : Int32) => lp_X10_doubts_4 μ n (x1 + q4) (x2 + 1))))
def f_X10_doubts (μ : Mem) : Option (Int32) := lp_X10_doubts_4 μ 4096 0 0
set_option maxHeartbeats 4000000 in
set_option maxRecDepth 100000 in
theorem c_X10_doubts (G : GG) (l : Launch) (μ : Mem) : CR G l yX10_doubts (.code yX10_doubts cX10_doubts 3 (some .int)) 3 [.ref (gad G 0 12)] μ (f_X10_doubts μ) := by
  refine CR.of (own := "SaturdayKeepModel") (L0 := [some (.ref (gad G 0 12)), none, none]) rfl rfl rfl (Nat.le_of_ble_eq_true rfl) (fun C hl hC => ?_)
  subst hl
  delta f_X10_doubts
  refine aw_iconst (pc := 0) (v := 0) hC dX10_doubts_0 ic0 ?_
  refine aw_istore_n (pc := 1) (i := 1) hC dX10_doubts_1 rfl rfl (by decide) ?_
  refine aw_iconst (pc := 2) (v := 0) hC dX10_doubts_2 ic0 ?_
  refine aw_istore_n (pc := 3) (i := 2) hC dX10_doubts_3 rfl rfl (by decide) ?_
  have hL4 : ∀ (n : Nat) (x1 : Int32) (x2 : Int32), AW G C (qR G C 0 0 μ) 0 0 3 μ 4 [some (.ref (gad G 0 12)), some (.int x1), some (.int x2)] [] (lp_X10_doubts_4 μ n x1 x2) := by
    intro n
    induction n with
    | zero => intro x1 x2; exact aw_none
    | succ n ih =>
      intro x1 x2
      rw [lp_X10_doubts_4]
      refine aw_iload_n (pc := 4) (i := 2) hC dX10_doubts_4 rfl rfl ?_
      refine aw_aload_n (pc := 5) (i := 0) hC dX10_doubts_5 rfl rfl ?_
      refine aw_get (pc := 6) hC inX10 (v0 (j := 12) (by decide)) rfl rfl 1 (by decide) kw1315 rfl rfl dX10_doubts_6 ?_
      refine aw_iconst (pc := 9) (v := 3) hC dX10_doubts_9 ic3 ?_
      refine aw_iaload (pc := 10) hC (v0 (j := 13) (by decide)) rfl dX10_doubts_10 ?_
      refine aw_icmp_ge (pc := 11) (tgt := 41) hC dX10_doubts_11 (by decide) (fun _ => ?_) (fun _ => ?_)
      · skip
        refine aw_iload_n (pc := 41) (i := 1) hC dX10_doubts_41 rfl rfl ?_
        exact aw_iretR hC dX10_doubts_42
      · skip
        refine aw_iload_n (pc := 14) (i := 1) hC dX10_doubts_14 rfl rfl ?_
        refine aw_aload_n (pc := 15) (i := 0) hC dX10_doubts_15 rfl rfl ?_
        refine aw_iload_n (pc := 16) (i := 2) hC dX10_doubts_16 rfl rfl ?_
        refine aw_callVR (pc := 17) (As := [.int x2]) hC mb_X10_isHere kw1558 (by decide) (c_X10_isHere G C.2.1   μ x2) (v0 (j := 12) (by decide)) rfl rfl rfl (Nat.le_of_ble_eq_true rfl) dX10_doubts_17 (fun q3 => ?_)
        refine aw_if_eq (pc := 20) (tgt := 32) hC dX10_doubts_20 (by decide) (fun _ => ?_) (fun _ => ?_)
        · skip
          refine aw_iconst (pc := 32) (v := 0) hC dX10_doubts_32 ic0 ?_
          refine aw_iadd (pc := 33) hC dX10_doubts_33 ?_
          refine aw_istore_n (pc := 34) (i := 1) hC dX10_doubts_34 rfl rfl (by decide) ?_
          refine aw_iinc (pc := 35) (v := x2 + 1) hC dX10_doubts_35 rfl (congrArg (HAdd.hAdd _) ic1) rfl (by decide) ?_
          refine aw_goto (pc := 38) (tgt := 4) hC dX10_doubts_38 (by decide) ?_
          exact ih (x1 + 0) (x2 + 1)
        · skip
          refine aw_aload_n (pc := 23) (i := 0) hC dX10_doubts_23 rfl rfl ?_
          refine aw_iload_n (pc := 24) (i := 2) hC dX10_doubts_24 rfl rfl ?_
          refine aw_iconst (pc := 25) (v := 2) hC dX10_doubts_25 ic2 ?_
          refine aw_callVR (pc := 26) (As := [.int x2, .int 2]) hC mb_X10_of kw1539 (by decide) (c_X10_of G C.2.1   μ x2 2) (v0 (j := 12) (by decide)) rfl rfl rfl (Nat.le_of_ble_eq_true rfl) dX10_doubts_26 (fun q4 => ?_)
          refine aw_goto (pc := 29) (tgt := 33) hC dX10_doubts_29 (by decide) ?_
          refine aw_iadd (pc := 33) hC dX10_doubts_33 ?_
          refine aw_istore_n (pc := 34) (i := 1) hC dX10_doubts_34 rfl rfl (by decide) ?_
          refine aw_iinc (pc := 35) (v := x2 + 1) hC dX10_doubts_35 rfl (congrArg (HAdd.hAdd _) ic1) rfl (by decide) ?_
          refine aw_goto (pc := 38) (tgt := 4) hC dX10_doubts_38 (by decide) ?_
          exact ih (x1 + q4) (x2 + 1)
  exact hL4 4096 0 0
