theorem dX5_readSum_0 : decode cX5_readSum 0 = .ok (.iconst 0, 1) := by decide +kernel
theorem dX5_readSum_1 : decode cX5_readSum 1 = .ok (.istore_n 1, 1) := by decide +kernel
theorem dX5_readSum_2 : decode cX5_readSum 2 = .ok (.iload_n 1, 1) := by decide +kernel
theorem dX5_readSum_3 : decode cX5_readSum 3 = .ok (.sipush 400, 3) := by decide +kernel
theorem dX5_readSum_6 : decode cX5_readSum 6 = .ok (.if_icmp .ge 118, 3) := by decide +kernel
theorem dX5_readSum_9 : decode cX5_readSum 9 = .ok (.aload_n 0, 1) := by decide +kernel
theorem dX5_readSum_10 : decode cX5_readSum 10 = .ok (.getfield 9, 3) := by decide +kernel
theorem dX5_readSum_13 : decode cX5_readSum 13 = .ok (.invokevirtual 29, 3) := by decide +kernel
theorem dX5_readSum_16 : decode cX5_readSum 16 = .ok (.istore_n 2, 1) := by decide +kernel
theorem dX5_readSum_17 : decode cX5_readSum 17 = .ok (.aload_n 0, 1) := by decide +kernel
theorem dX5_readSum_18 : decode cX5_readSum 18 = .ok (.getfield 9, 3) := by decide +kernel
theorem dX5_readSum_21 : decode cX5_readSum 21 = .ok (.sipush 999, 3) := by decide +kernel
theorem dX5_readSum_24 : decode cX5_readSum 24 = .ok (.invokevirtual 43, 3) := by decide +kernel
theorem dX5_readSum_27 : decode cX5_readSum 27 = .ok (.ifCond .eq 20, 3) := by decide +kernel
theorem dX5_readSum_30 : decode cX5_readSum 30 = .ok (.aload_n 0, 1) := by decide +kernel
theorem dX5_readSum_31 : decode cX5_readSum 31 = .ok (.getfield 18, 3) := by decide +kernel
theorem dX5_readSum_34 : decode cX5_readSum 34 = .ok (.aload_n 0, 1) := by decide +kernel
theorem dX5_readSum_35 : decode cX5_readSum 35 = .ok (.getfield 9, 3) := by decide +kernel
theorem dX5_readSum_38 : decode cX5_readSum 38 = .ok (.getfield 46, 3) := by decide +kernel
theorem dX5_readSum_41 : decode cX5_readSum 41 = .ok (.invokevirtual 49, 3) := by decide +kernel
theorem dX5_readSum_44 : decode cX5_readSum 44 = .ok (.goto 46, 3) := by decide +kernel
theorem dX5_readSum_47 : decode cX5_readSum 47 = .ok (.iload_n 2, 1) := by decide +kernel
theorem dX5_readSum_48 : decode cX5_readSum 48 = .ok (.bipush 10, 2) := by decide +kernel
theorem dX5_readSum_50 : decode cX5_readSum 50 = .ok (.if_icmp .lt 38, 3) := by decide +kernel
theorem dX5_readSum_53 : decode cX5_readSum 53 = .ok (.iload_n 2, 1) := by decide +kernel
theorem dX5_readSum_54 : decode cX5_readSum 54 = .ok (.bipush 16, 2) := by decide +kernel
theorem dX5_readSum_56 : decode cX5_readSum 56 = .ok (.if_icmp .gt 32, 3) := by decide +kernel
theorem dX5_readSum_59 : decode cX5_readSum 59 = .ok (.aload_n 0, 1) := by decide +kernel
theorem dX5_readSum_60 : decode cX5_readSum 60 = .ok (.getfield 9, 3) := by decide +kernel
theorem dX5_readSum_63 : decode cX5_readSum 63 = .ok (.iload_n 2, 1) := by decide +kernel
theorem dX5_readSum_64 : decode cX5_readSum 64 = .ok (.invokevirtual 39, 3) := by decide +kernel
theorem dX5_readSum_67 : decode cX5_readSum 67 = .ok (.ifCond .eq 21, 3) := by decide +kernel
theorem dX5_readSum_70 : decode cX5_readSum 70 = .ok (.aload_n 0, 1) := by decide +kernel
theorem dX5_readSum_71 : decode cX5_readSum 71 = .ok (.getfield 18, 3) := by decide +kernel
theorem dX5_readSum_74 : decode cX5_readSum 74 = .ok (.sipush 1000, 3) := by decide +kernel
theorem dX5_readSum_77 : decode cX5_readSum 77 = .ok (.iload_n 2, 1) := by decide +kernel
theorem dX5_readSum_78 : decode cX5_readSum 78 = .ok (.iadd, 1) := by decide +kernel
theorem dX5_readSum_79 : decode cX5_readSum 79 = .ok (.bipush 10, 2) := by decide +kernel
theorem dX5_readSum_81 : decode cX5_readSum 81 = .ok (.isub, 1) := by decide +kernel
theorem dX5_readSum_82 : decode cX5_readSum 82 = .ok (.invokevirtual 49, 3) := by decide +kernel
theorem dX5_readSum_85 : decode cX5_readSum 85 = .ok (.goto 5, 3) := by decide +kernel
theorem dX5_readSum_88 : decode cX5_readSum 88 = .ok (.iconst 0, 1) := by decide +kernel
theorem dX5_readSum_89 : decode cX5_readSum 89 = .ok (.ireturn, 1) := by decide +kernel
theorem dX5_readSum_90 : decode cX5_readSum 90 = .ok (.iload_n 1, 1) := by decide +kernel
theorem dX5_readSum_91 : decode cX5_readSum 91 = .ok (.ifCond .le 13, 3) := by decide +kernel
theorem dX5_readSum_94 : decode cX5_readSum 94 = .ok (.aload_n 0, 1) := by decide +kernel
theorem dX5_readSum_95 : decode cX5_readSum 95 = .ok (.getfield 18, 3) := by decide +kernel
theorem dX5_readSum_98 : decode cX5_readSum 98 = .ok (.sipush 1010, 3) := by decide +kernel
theorem dX5_readSum_101 : decode cX5_readSum 101 = .ok (.invokevirtual 49, 3) := by decide +kernel
theorem dX5_readSum_104 : decode cX5_readSum 104 = .ok (.aload_n 0, 1) := by decide +kernel
theorem dX5_readSum_105 : decode cX5_readSum 105 = .ok (.getfield 9, 3) := by decide +kernel
theorem dX5_readSum_108 : decode cX5_readSum 108 = .ok (.bipush 8, 2) := by decide +kernel
theorem dX5_readSum_110 : decode cX5_readSum 110 = .ok (.invokevirtual 39, 3) := by decide +kernel
theorem dX5_readSum_113 : decode cX5_readSum 113 = .ok (.ifCond .ne 5, 3) := by decide +kernel
theorem dX5_readSum_116 : decode cX5_readSum 116 = .ok (.iconst 1, 1) := by decide +kernel
theorem dX5_readSum_117 : decode cX5_readSum 117 = .ok (.ireturn, 1) := by decide +kernel
theorem dX5_readSum_118 : decode cX5_readSum 118 = .ok (.iinc 1 1, 3) := by decide +kernel
theorem dX5_readSum_121 : decode cX5_readSum 121 = .ok (.goto (-119), 3) := by decide +kernel
theorem dX5_readSum_124 : decode cX5_readSum 124 = .ok (.iconst 0, 1) := by decide +kernel
theorem dX5_readSum_125 : decode cX5_readSum 125 = .ok (.ireturn, 1) := by decide +kernel
def lp_X5_readSum_2  : Nat → Int32 → Mem → Option (Int32 × Mem)
  | 0, _, _ => none
  | n + 1, x1, μ2 => if 400 ≤ x1 then (some (0, μ2)) else ((f_X8_kind μ2).bind fun (q3 : Int32) => (f_X8_takeNumber μ2 999).bind fun (q4 : Int32 × Mem) => nm (fun (μ5 : Mem) => nm (fun (μ6 : Mem) => (f_X8_take μ6 8).bind fun (q7 : Int32 × Mem) => if q7.1 = 0 then (some (1, q7.2)) else (lp_X5_readSum_2 n (x1 + 1) q7.2)) fun (J104 : Mem → Option (Int32 × Mem)) => if x1 ≤ 0 then (J104 μ5) else ((f_X4_put 15 μ5 1010).bind fun (q8 : Mem) => J104 q8)) fun (J90 : Mem → Option (Int32 × Mem)) => if q4.1 = 0 then (if q3 < 10 then (some (0, q4.2)) else (if 16 < q3 then (some (0, q4.2)) else ((f_X8_take q4.2 q3).bind fun (q9 : Int32 × Mem) => if q9.1 = 0 then (some (0, q9.2)) else ((f_X4_put 15 q9.2 ((1000 + q3) - 10)).bind fun (q10 : Mem) => J90 q10)))) else ((f_X4_put 15 q4.2 (q4.2 0 3 5)).bind fun (q11 : Mem) => J90 q11))
def f_X5_readSum (μ : Mem) : Option (Int32 × Mem) := lp_X5_readSum_2 4096 0 μ
set_option maxHeartbeats 4000000 in
set_option maxRecDepth 100000 in
theorem c_X5_readSum (G : GG) (l : Launch) (μ : Mem) : CI G l yX5_readSum (.code yX5_readSum cX5_readSum 3 (some .boolean)) 2 [.ref (gad G 0 8)] μ (f_X5_readSum μ) := by
  refine CI.of (own := "SaturdayKeep$LawReader") (L0 := [some (.ref (gad G 0 8)), none, none]) rfl rfl rfl (Nat.le_of_ble_eq_true rfl) (fun C hl hC => ?_)
  subst hl
  delta f_X5_readSum
  refine aw_iconst (pc := 0) (v := 0) hC dX5_readSum_0 ic0 ?_
  refine aw_istore_n (pc := 1) (i := 1) hC dX5_readSum_1 rfl rfl (by decide) ?_
  have hL2 : ∀ (n : Nat) (x1 : Int32) (μ2 : Mem), AW G C (qI G C 0 0) 0 0 3 μ2 2 [some (.ref (gad G 0 8)), some (.int x1), none] [] (lp_X5_readSum_2 n x1 μ2) := by
    intro n
    induction n with
    | zero => intro x1 μ2; exact aw_none
    | succ n ih =>
      intro x1 μ2
      rw [lp_X5_readSum_2]
      refine aw_iload_n (pc := 2) (i := 1) hC dX5_readSum_2 rfl rfl ?_
      refine aw_sipush (pc := 3) (v := 400) hC dX5_readSum_3 sc400 ?_
      refine aw_icmp_ge (pc := 6) (tgt := 124) hC dX5_readSum_6 (by decide) (fun _ => ?_) (fun _ => ?_)
      · skip
        refine aw_iconst (pc := 124) (v := 0) hC dX5_readSum_124 ic0 ?_
        exact aw_zret0 hC dX5_readSum_125
      · skip
        refine aw_aload_n (pc := 9) (i := 0) hC dX5_readSum_9 rfl rfl ?_
        refine aw_get (pc := 10) hC inX5 (v0 (j := 8) (by decide)) rfl rfl 0 (by decide) kw120 rfl rfl dX5_readSum_10 ?_
        refine aw_callVR (pc := 13) (As := []) hC mb_X8_kind kw841 (by decide) (c_X8_kind G C.2.1   μ2 ) (v0 (j := 3) (by decide)) rfl rfl rfl (Nat.le_of_ble_eq_true rfl) dX5_readSum_13 (fun q3 => ?_)
        refine aw_istore_n (pc := 16) (i := 2) hC dX5_readSum_16 rfl rfl (by decide) ?_
        refine aw_aload_n (pc := 17) (i := 0) hC dX5_readSum_17 rfl rfl ?_
        refine aw_get (pc := 18) hC inX5 (v0 (j := 8) (by decide)) rfl rfl 0 (by decide) kw120 rfl rfl dX5_readSum_18 ?_
        refine aw_sipush (pc := 21) (v := 999) hC dX5_readSum_21 sc999 ?_
        refine aw_callVI (pc := 24) (As := [.int 999]) hC mb_X8_takeNumber kw847 (by decide) (c_X8_takeNumber G C.2.1   μ2 999) (v0 (j := 3) (by decide)) rfl rfl rfl (Nat.le_of_ble_eq_true rfl) dX5_readSum_24 (fun q4 => ?_)
        refine aw_nmJ (fun (J90 : Mem → Option (Int32 × Mem)) => ∀ (μ5 : Mem), AW G C (qI G C 0 0) 0 0 3 μ5 90 [some (.ref (gad G 0 8)), some (.int x1), none] [] (J90 μ5)) (fun μ5 => ?_) (fun J90 hJ90 => ?_)
        · skip
          refine aw_iload_n (pc := 90) (i := 1) hC dX5_readSum_90 rfl rfl ?_
          refine aw_nmJ (fun (J104 : Mem → Option (Int32 × Mem)) => ∀ (μ6 : Mem), AW G C (qI G C 0 0) 0 0 3 μ6 104 [some (.ref (gad G 0 8)), some (.int x1), none] [] (J104 μ6)) (fun μ6 => ?_) (fun J104 hJ104 => ?_)
          · skip
            refine aw_aload_n (pc := 104) (i := 0) hC dX5_readSum_104 rfl rfl ?_
            refine aw_get (pc := 105) hC inX5 (v0 (j := 8) (by decide)) rfl rfl 0 (by decide) kw120 rfl rfl dX5_readSum_105 ?_
            refine aw_bipush (pc := 108) (v := 8) hC dX5_readSum_108 bc8 ?_
            refine aw_callVI (pc := 110) (As := [.int 8]) hC mb_X8_take kw846 (by decide) (c_X8_take G C.2.1   μ6 8) (v0 (j := 3) (by decide)) rfl rfl rfl (Nat.le_of_ble_eq_true rfl) dX5_readSum_110 (fun q7 => ?_)
            refine aw_if_ne (pc := 113) (tgt := 118) hC dX5_readSum_113 (by decide) (fun _ => ?_) (fun _ => ?_)
            · skip
              refine aw_iconst (pc := 116) (v := 1) hC dX5_readSum_116 ic1 ?_
              exact aw_zret1 hC dX5_readSum_117
            · skip
              refine aw_iinc (pc := 118) (v := x1 + 1) hC dX5_readSum_118 rfl (congrArg (HAdd.hAdd _) ic1) rfl (by decide) ?_
              refine aw_goto (pc := 121) (tgt := 2) hC dX5_readSum_121 (by decide) ?_
              exact ih (x1 + 1) q7.2
          · skip
            refine aw_if_le (pc := 91) (tgt := 104) hC dX5_readSum_91 (by decide) (fun _ => ?_) (fun _ => ?_)
            · skip
              exact hJ104 μ5
            · skip
              refine aw_aload_n (pc := 94) (i := 0) hC dX5_readSum_94 rfl rfl ?_
              refine aw_get (pc := 95) hC inX5 (v0 (j := 8) (by decide)) rfl rfl 1 (by decide) kw121 rfl rfl dX5_readSum_95 ?_
              refine aw_sipush (pc := 98) (v := 1010) hC dX5_readSum_98 sc1010 ?_
              refine aw_callVV (pc := 101) (As := [.int 1010]) hC mb_X4_put kw848 (by decide) (c_X4_put G C.2.1 15 (by decide) μ5 1010) (vL (h := 15) (j := 7) (by decide) (by decide)) rfl rfl rfl (Nat.le_of_ble_eq_true rfl) dX5_readSum_101 (fun q8 => ?_)
              exact hJ104 q8
        · skip
          refine aw_if_eq (pc := 27) (tgt := 47) hC dX5_readSum_27 (by decide) (fun _ => ?_) (fun _ => ?_)
          · skip
            refine aw_iload_n (pc := 47) (i := 2) hC dX5_readSum_47 rfl rfl ?_
            refine aw_bipush (pc := 48) (v := 10) hC dX5_readSum_48 bc10 ?_
            refine aw_icmp_lt (pc := 50) (tgt := 88) hC dX5_readSum_50 (by decide) (fun _ => ?_) (fun _ => ?_)
            · skip
              refine aw_iconst (pc := 88) (v := 0) hC dX5_readSum_88 ic0 ?_
              exact aw_zret0 hC dX5_readSum_89
            · skip
              refine aw_iload_n (pc := 53) (i := 2) hC dX5_readSum_53 rfl rfl ?_
              refine aw_bipush (pc := 54) (v := 16) hC dX5_readSum_54 bc16 ?_
              refine aw_icmp_gt (pc := 56) (tgt := 88) hC dX5_readSum_56 (by decide) (fun _ => ?_) (fun _ => ?_)
              · skip
                refine aw_iconst (pc := 88) (v := 0) hC dX5_readSum_88 ic0 ?_
                exact aw_zret0 hC dX5_readSum_89
              · skip
                refine aw_aload_n (pc := 59) (i := 0) hC dX5_readSum_59 rfl rfl ?_
                refine aw_get (pc := 60) hC inX5 (v0 (j := 8) (by decide)) rfl rfl 0 (by decide) kw120 rfl rfl dX5_readSum_60 ?_
                refine aw_iload_n (pc := 63) (i := 2) hC dX5_readSum_63 rfl rfl ?_
                refine aw_callVI (pc := 64) (As := [.int q3]) hC mb_X8_take kw846 (by decide) (c_X8_take G C.2.1   q4.2 q3) (v0 (j := 3) (by decide)) rfl rfl rfl (Nat.le_of_ble_eq_true rfl) dX5_readSum_64 (fun q9 => ?_)
                refine aw_if_eq (pc := 67) (tgt := 88) hC dX5_readSum_67 (by decide) (fun _ => ?_) (fun _ => ?_)
                · skip
                  refine aw_iconst (pc := 88) (v := 0) hC dX5_readSum_88 ic0 ?_
                  exact aw_zret0 hC dX5_readSum_89
                · skip
                  refine aw_aload_n (pc := 70) (i := 0) hC dX5_readSum_70 rfl rfl ?_
                  refine aw_get (pc := 71) hC inX5 (v0 (j := 8) (by decide)) rfl rfl 1 (by decide) kw121 rfl rfl dX5_readSum_71 ?_
                  refine aw_sipush (pc := 74) (v := 1000) hC dX5_readSum_74 sc1000 ?_
                  refine aw_iload_n (pc := 77) (i := 2) hC dX5_readSum_77 rfl rfl ?_
                  refine aw_iadd (pc := 78) hC dX5_readSum_78 ?_
                  refine aw_bipush (pc := 79) (v := 10) hC dX5_readSum_79 bc10 ?_
                  refine aw_isub (pc := 81) hC dX5_readSum_81 ?_
                  refine aw_callVV (pc := 82) (As := [.int ((1000 + q3) - 10)]) hC mb_X4_put kw848 (by decide) (c_X4_put G C.2.1 15 (by decide) q9.2 ((1000 + q3) - 10)) (vL (h := 15) (j := 7) (by decide) (by decide)) rfl rfl rfl (Nat.le_of_ble_eq_true rfl) dX5_readSum_82 (fun q10 => ?_)
                  refine aw_goto (pc := 85) (tgt := 90) hC dX5_readSum_85 (by decide) ?_
                  exact aw_drop [2] (hJ90 q10)
          · skip
            refine aw_aload_n (pc := 30) (i := 0) hC dX5_readSum_30 rfl rfl ?_
            refine aw_get (pc := 31) hC inX5 (v0 (j := 8) (by decide)) rfl rfl 1 (by decide) kw121 rfl rfl dX5_readSum_31 ?_
            refine aw_aload_n (pc := 34) (i := 0) hC dX5_readSum_34 rfl rfl ?_
            refine aw_get (pc := 35) hC inX5 (v0 (j := 8) (by decide)) rfl rfl 0 (by decide) kw120 rfl rfl dX5_readSum_35 ?_
            refine aw_get (pc := 38) hC inX8 (v0 (j := 3) (by decide)) rfl rfl 5 (by decide) kw63 rfl rfl dX5_readSum_38 ?_
            refine aw_callVV (pc := 41) (As := [.int (q4.2 0 3 5)]) hC mb_X4_put kw848 (by decide) (c_X4_put G C.2.1 15 (by decide) q4.2 (q4.2 0 3 5)) (vL (h := 15) (j := 7) (by decide) (by decide)) rfl rfl rfl (Nat.le_of_ble_eq_true rfl) dX5_readSum_41 (fun q11 => ?_)
            refine aw_goto (pc := 44) (tgt := 90) hC dX5_readSum_44 (by decide) ?_
            exact aw_drop [2] (hJ90 q11)
  exact hL2 4096 0 μ
theorem dX5_readAll_0 : decode cX5_readAll 0 = .ok (.aload_n 0, 1) := by decide +kernel
theorem dX5_readAll_1 : decode cX5_readAll 1 = .ok (.iload_n 1, 1) := by decide +kernel
theorem dX5_readAll_2 : decode cX5_readAll 2 = .ok (.invokevirtual 59, 3) := by decide +kernel
theorem dX5_readAll_5 : decode cX5_readAll 5 = .ok (.ifCond .ne 5, 3) := by decide +kernel
theorem dX5_readAll_8 : decode cX5_readAll 8 = .ok (.iconst 0, 1) := by decide +kernel
theorem dX5_readAll_9 : decode cX5_readAll 9 = .ok (.ireturn, 1) := by decide +kernel
theorem dX5_readAll_10 : decode cX5_readAll 10 = .ok (.iconst 0, 1) := by decide +kernel
theorem dX5_readAll_11 : decode cX5_readAll 11 = .ok (.istore_n 2, 1) := by decide +kernel
theorem dX5_readAll_12 : decode cX5_readAll 12 = .ok (.iload_n 2, 1) := by decide +kernel
theorem dX5_readAll_13 : decode cX5_readAll 13 = .ok (.sipush 400, 3) := by decide +kernel
theorem dX5_readAll_16 : decode cX5_readAll 16 = .ok (.if_icmp .ge 41, 3) := by decide +kernel
theorem dX5_readAll_19 : decode cX5_readAll 19 = .ok (.aload_n 0, 1) := by decide +kernel
theorem dX5_readAll_20 : decode cX5_readAll 20 = .ok (.getfield 9, 3) := by decide +kernel
theorem dX5_readAll_23 : decode cX5_readAll 23 = .ok (.bipush 25, 2) := by decide +kernel
theorem dX5_readAll_25 : decode cX5_readAll 25 = .ok (.invokevirtual 39, 3) := by decide +kernel
theorem dX5_readAll_28 : decode cX5_readAll 28 = .ok (.ifCond .eq 29, 3) := by decide +kernel
theorem dX5_readAll_31 : decode cX5_readAll 31 = .ok (.aload_n 0, 1) := by decide +kernel
theorem dX5_readAll_32 : decode cX5_readAll 32 = .ok (.iload_n 1, 1) := by decide +kernel
theorem dX5_readAll_33 : decode cX5_readAll 33 = .ok (.invokevirtual 59, 3) := by decide +kernel
theorem dX5_readAll_36 : decode cX5_readAll 36 = .ok (.ifCond .ne 5, 3) := by decide +kernel
theorem dX5_readAll_39 : decode cX5_readAll 39 = .ok (.iconst 0, 1) := by decide +kernel
theorem dX5_readAll_40 : decode cX5_readAll 40 = .ok (.ireturn, 1) := by decide +kernel
theorem dX5_readAll_41 : decode cX5_readAll 41 = .ok (.aload_n 0, 1) := by decide +kernel
theorem dX5_readAll_42 : decode cX5_readAll 42 = .ok (.getfield 18, 3) := by decide +kernel
theorem dX5_readAll_45 : decode cX5_readAll 45 = .ok (.sipush 1013, 3) := by decide +kernel
theorem dX5_readAll_48 : decode cX5_readAll 48 = .ok (.invokevirtual 49, 3) := by decide +kernel
theorem dX5_readAll_51 : decode cX5_readAll 51 = .ok (.iinc 2 1, 3) := by decide +kernel
theorem dX5_readAll_54 : decode cX5_readAll 54 = .ok (.goto (-42), 3) := by decide +kernel
theorem dX5_readAll_57 : decode cX5_readAll 57 = .ok (.iconst 1, 1) := by decide +kernel
theorem dX5_readAll_58 : decode cX5_readAll 58 = .ok (.ireturn, 1) := by decide +kernel
def lp_X5_readAll_12 (A : Mem → Int32 → Option (Int32 × Mem)) (a1 : Int32) : Nat → Int32 → Mem → Option (Int32 × Mem)
  | 0, _, _ => none
  | n + 1, x2, μ3 => if 400 ≤ x2 then (some (1, μ3)) else ((f_X8_take μ3 25).bind fun (q4 : Int32 × Mem) => if q4.1 = 0 then (some (1, q4.2)) else ((A q4.2 a1).bind fun (q5 : Int32 × Mem) => if q5.1 = 0 then (some (0, q5.2)) else ((f_X4_put 15 q5.2 1013).bind fun (q6 : Mem) => lp_X5_readAll_12 A a1 n (x2 + 1) q6)))
def f_X5_readAll (A : Mem → Int32 → Option (Int32 × Mem)) (μ : Mem) (a1 : Int32) : Option (Int32 × Mem) := (A μ a1).bind fun (q1 : Int32 × Mem) => if q1.1 = 0 then (some (0, q1.2)) else (lp_X5_readAll_12 A a1 4096 0 q1.2)
set_option maxHeartbeats 4000000 in
set_option maxRecDepth 100000 in
theorem c_X5_readAll (G : GG) (l : Launch) (lv : Nat) (hlv : 12 ≤ lv) (A : Mem → Int32 → Option (Int32 × Mem)) (hA : ∀ (μ : Mem) (a1 : Int32), CI G l yX5_readAtom (.code yX5_readAtom cX5_readAtom 4 (some .boolean)) lv [.ref (gad G 0 8), .int a1] μ (A μ a1)) (μ : Mem) (a1 : Int32) : CI G l yX5_readAll (.code yX5_readAll cX5_readAll 3 (some .boolean)) (lv + 1) [.ref (gad G 0 8), .int a1] μ (f_X5_readAll A μ a1) := by
  refine CI.of (own := "SaturdayKeep$LawReader") (L0 := [some (.ref (gad G 0 8)), some (.int a1), none]) rfl rfl rfl (Nat.le_of_ble_eq_true rfl) (fun C hl hC => ?_)
  subst hl
  delta f_X5_readAll
  refine aw_aload_n (pc := 0) (i := 0) hC dX5_readAll_0 rfl rfl ?_
  refine aw_iload_n (pc := 1) (i := 1) hC dX5_readAll_1 rfl rfl ?_
  refine aw_callVI (pc := 2) (As := [.int a1]) hC mb_X5_readAtom kw860 (by omega) (hA μ a1) (v0 (j := 8) (by decide)) rfl rfl rfl (Nat.le_of_ble_eq_true rfl) dX5_readAll_2 (fun q1 => ?_)
  refine aw_if_ne (pc := 5) (tgt := 10) hC dX5_readAll_5 (by decide) (fun _ => ?_) (fun _ => ?_)
  · skip
    refine aw_iconst (pc := 8) (v := 0) hC dX5_readAll_8 ic0 ?_
    exact aw_zret0 hC dX5_readAll_9
  · skip
    refine aw_iconst (pc := 10) (v := 0) hC dX5_readAll_10 ic0 ?_
    refine aw_istore_n (pc := 11) (i := 2) hC dX5_readAll_11 rfl rfl (by decide) ?_
    have hL12 : ∀ (n : Nat) (x2 : Int32) (μ3 : Mem), AW G C (qI G C 0 0) 0 0 3 μ3 12 [some (.ref (gad G 0 8)), some (.int a1), some (.int x2)] [] (lp_X5_readAll_12 A a1 n x2 μ3) := by
      intro n
      induction n with
      | zero => intro x2 μ3; exact aw_none
      | succ n ih =>
        intro x2 μ3
        rw [lp_X5_readAll_12]
        refine aw_iload_n (pc := 12) (i := 2) hC dX5_readAll_12 rfl rfl ?_
        refine aw_sipush (pc := 13) (v := 400) hC dX5_readAll_13 sc400 ?_
        refine aw_icmp_ge (pc := 16) (tgt := 57) hC dX5_readAll_16 (by decide) (fun _ => ?_) (fun _ => ?_)
        · skip
          refine aw_iconst (pc := 57) (v := 1) hC dX5_readAll_57 ic1 ?_
          exact aw_zret1 hC dX5_readAll_58
        · skip
          refine aw_aload_n (pc := 19) (i := 0) hC dX5_readAll_19 rfl rfl ?_
          refine aw_get (pc := 20) hC inX5 (v0 (j := 8) (by decide)) rfl rfl 0 (by decide) kw120 rfl rfl dX5_readAll_20 ?_
          refine aw_bipush (pc := 23) (v := 25) hC dX5_readAll_23 bc25 ?_
          refine aw_callVI (pc := 25) (As := [.int 25]) hC mb_X8_take kw846 (by omega) (c_X8_take G C.2.1   μ3 25) (v0 (j := 3) (by decide)) rfl rfl rfl (Nat.le_of_ble_eq_true rfl) dX5_readAll_25 (fun q4 => ?_)
          refine aw_if_eq (pc := 28) (tgt := 57) hC dX5_readAll_28 (by decide) (fun _ => ?_) (fun _ => ?_)
          · skip
            refine aw_iconst (pc := 57) (v := 1) hC dX5_readAll_57 ic1 ?_
            exact aw_zret1 hC dX5_readAll_58
          · skip
            refine aw_aload_n (pc := 31) (i := 0) hC dX5_readAll_31 rfl rfl ?_
            refine aw_iload_n (pc := 32) (i := 1) hC dX5_readAll_32 rfl rfl ?_
            refine aw_callVI (pc := 33) (As := [.int a1]) hC mb_X5_readAtom kw860 (by omega) (hA q4.2 a1) (v0 (j := 8) (by decide)) rfl rfl rfl (Nat.le_of_ble_eq_true rfl) dX5_readAll_33 (fun q5 => ?_)
            refine aw_if_ne (pc := 36) (tgt := 41) hC dX5_readAll_36 (by decide) (fun _ => ?_) (fun _ => ?_)
            · skip
              refine aw_iconst (pc := 39) (v := 0) hC dX5_readAll_39 ic0 ?_
              exact aw_zret0 hC dX5_readAll_40
            · skip
              refine aw_aload_n (pc := 41) (i := 0) hC dX5_readAll_41 rfl rfl ?_
              refine aw_get (pc := 42) hC inX5 (v0 (j := 8) (by decide)) rfl rfl 1 (by decide) kw121 rfl rfl dX5_readAll_42 ?_
              refine aw_sipush (pc := 45) (v := 1013) hC dX5_readAll_45 sc1013 ?_
              refine aw_callVV (pc := 48) (As := [.int 1013]) hC mb_X4_put kw848 (by omega) (c_X4_put G C.2.1 15 (by decide) q5.2 1013) (vL (h := 15) (j := 7) (by decide) (by decide)) rfl rfl rfl (Nat.le_of_ble_eq_true rfl) dX5_readAll_48 (fun q6 => ?_)
              refine aw_iinc (pc := 51) (v := x2 + 1) hC dX5_readAll_51 rfl (congrArg (HAdd.hAdd _) ic1) rfl (by decide) ?_
              refine aw_goto (pc := 54) (tgt := 12) hC dX5_readAll_54 (by decide) ?_
              exact ih (x2 + 1) q6
    exact hL12 4096 0 q1.2
theorem dX5_readAny_0 : decode cX5_readAny 0 = .ok (.aload_n 0, 1) := by decide +kernel
theorem dX5_readAny_1 : decode cX5_readAny 1 = .ok (.iload_n 1, 1) := by decide +kernel
theorem dX5_readAny_2 : decode cX5_readAny 2 = .ok (.invokevirtual 56, 3) := by decide +kernel
theorem dX5_readAny_5 : decode cX5_readAny 5 = .ok (.ifCond .ne 5, 3) := by decide +kernel
theorem dX5_readAny_8 : decode cX5_readAny 8 = .ok (.iconst 0, 1) := by decide +kernel
theorem dX5_readAny_9 : decode cX5_readAny 9 = .ok (.ireturn, 1) := by decide +kernel
theorem dX5_readAny_10 : decode cX5_readAny 10 = .ok (.iconst 0, 1) := by decide +kernel
theorem dX5_readAny_11 : decode cX5_readAny 11 = .ok (.istore_n 2, 1) := by decide +kernel
theorem dX5_readAny_12 : decode cX5_readAny 12 = .ok (.iload_n 2, 1) := by decide +kernel
theorem dX5_readAny_13 : decode cX5_readAny 13 = .ok (.sipush 400, 3) := by decide +kernel
theorem dX5_readAny_16 : decode cX5_readAny 16 = .ok (.if_icmp .ge 41, 3) := by decide +kernel
theorem dX5_readAny_19 : decode cX5_readAny 19 = .ok (.aload_n 0, 1) := by decide +kernel
theorem dX5_readAny_20 : decode cX5_readAny 20 = .ok (.getfield 9, 3) := by decide +kernel
theorem dX5_readAny_23 : decode cX5_readAny 23 = .ok (.bipush 24, 2) := by decide +kernel
theorem dX5_readAny_25 : decode cX5_readAny 25 = .ok (.invokevirtual 39, 3) := by decide +kernel
theorem dX5_readAny_28 : decode cX5_readAny 28 = .ok (.ifCond .eq 29, 3) := by decide +kernel
theorem dX5_readAny_31 : decode cX5_readAny 31 = .ok (.aload_n 0, 1) := by decide +kernel
theorem dX5_readAny_32 : decode cX5_readAny 32 = .ok (.iload_n 1, 1) := by decide +kernel
theorem dX5_readAny_33 : decode cX5_readAny 33 = .ok (.invokevirtual 56, 3) := by decide +kernel
theorem dX5_readAny_36 : decode cX5_readAny 36 = .ok (.ifCond .ne 5, 3) := by decide +kernel
theorem dX5_readAny_39 : decode cX5_readAny 39 = .ok (.iconst 0, 1) := by decide +kernel
theorem dX5_readAny_40 : decode cX5_readAny 40 = .ok (.ireturn, 1) := by decide +kernel
theorem dX5_readAny_41 : decode cX5_readAny 41 = .ok (.aload_n 0, 1) := by decide +kernel
theorem dX5_readAny_42 : decode cX5_readAny 42 = .ok (.getfield 18, 3) := by decide +kernel
theorem dX5_readAny_45 : decode cX5_readAny 45 = .ok (.sipush 1014, 3) := by decide +kernel
theorem dX5_readAny_48 : decode cX5_readAny 48 = .ok (.invokevirtual 49, 3) := by decide +kernel
theorem dX5_readAny_51 : decode cX5_readAny 51 = .ok (.iinc 2 1, 3) := by decide +kernel
theorem dX5_readAny_54 : decode cX5_readAny 54 = .ok (.goto (-42), 3) := by decide +kernel
theorem dX5_readAny_57 : decode cX5_readAny 57 = .ok (.iconst 1, 1) := by decide +kernel
theorem dX5_readAny_58 : decode cX5_readAny 58 = .ok (.ireturn, 1) := by decide +kernel
def lp_X5_readAny_12 (A : Mem → Int32 → Option (Int32 × Mem)) (a1 : Int32) : Nat → Int32 → Mem → Option (Int32 × Mem)
  | 0, _, _ => none
  | n + 1, x2, μ3 => if 400 ≤ x2 then (some (1, μ3)) else ((f_X8_take μ3 24).bind fun (q4 : Int32 × Mem) => if q4.1 = 0 then (some (1, q4.2)) else ((f_X5_readAll A q4.2 a1).bind fun (q5 : Int32 × Mem) => if q5.1 = 0 then (some (0, q5.2)) else ((f_X4_put 15 q5.2 1014).bind fun (q6 : Mem) => lp_X5_readAny_12 A a1 n (x2 + 1) q6)))
def f_X5_readAny (A : Mem → Int32 → Option (Int32 × Mem)) (μ : Mem) (a1 : Int32) : Option (Int32 × Mem) := (f_X5_readAll A μ a1).bind fun (q1 : Int32 × Mem) => if q1.1 = 0 then (some (0, q1.2)) else (lp_X5_readAny_12 A a1 4096 0 q1.2)
set_option maxHeartbeats 4000000 in
set_option maxRecDepth 100000 in
theorem c_X5_readAny (G : GG) (l : Launch) (lv : Nat) (hlv : 12 ≤ lv) (A : Mem → Int32 → Option (Int32 × Mem)) (hA : ∀ (μ : Mem) (a1 : Int32), CI G l yX5_readAtom (.code yX5_readAtom cX5_readAtom 4 (some .boolean)) lv [.ref (gad G 0 8), .int a1] μ (A μ a1)) (μ : Mem) (a1 : Int32) : CI G l yX5_readAny (.code yX5_readAny cX5_readAny 3 (some .boolean)) (lv + 2) [.ref (gad G 0 8), .int a1] μ (f_X5_readAny A μ a1) := by
  refine CI.of (own := "SaturdayKeep$LawReader") (L0 := [some (.ref (gad G 0 8)), some (.int a1), none]) rfl rfl rfl (Nat.le_of_ble_eq_true rfl) (fun C hl hC => ?_)
  subst hl
  delta f_X5_readAny
  refine aw_aload_n (pc := 0) (i := 0) hC dX5_readAny_0 rfl rfl ?_
  refine aw_iload_n (pc := 1) (i := 1) hC dX5_readAny_1 rfl rfl ?_
  refine aw_callVI (pc := 2) (As := [.int a1]) hC mb_X5_readAll kw856 (by omega) (c_X5_readAll G C.2.1 lv hlv A hA μ a1) (v0 (j := 8) (by decide)) rfl rfl rfl (Nat.le_of_ble_eq_true rfl) dX5_readAny_2 (fun q1 => ?_)
  refine aw_if_ne (pc := 5) (tgt := 10) hC dX5_readAny_5 (by decide) (fun _ => ?_) (fun _ => ?_)
  · skip
    refine aw_iconst (pc := 8) (v := 0) hC dX5_readAny_8 ic0 ?_
    exact aw_zret0 hC dX5_readAny_9
  · skip
    refine aw_iconst (pc := 10) (v := 0) hC dX5_readAny_10 ic0 ?_
    refine aw_istore_n (pc := 11) (i := 2) hC dX5_readAny_11 rfl rfl (by decide) ?_
    have hL12 : ∀ (n : Nat) (x2 : Int32) (μ3 : Mem), AW G C (qI G C 0 0) 0 0 3 μ3 12 [some (.ref (gad G 0 8)), some (.int a1), some (.int x2)] [] (lp_X5_readAny_12 A a1 n x2 μ3) := by
      intro n
      induction n with
      | zero => intro x2 μ3; exact aw_none
      | succ n ih =>
        intro x2 μ3
        rw [lp_X5_readAny_12]
        refine aw_iload_n (pc := 12) (i := 2) hC dX5_readAny_12 rfl rfl ?_
        refine aw_sipush (pc := 13) (v := 400) hC dX5_readAny_13 sc400 ?_
        refine aw_icmp_ge (pc := 16) (tgt := 57) hC dX5_readAny_16 (by decide) (fun _ => ?_) (fun _ => ?_)
        · skip
          refine aw_iconst (pc := 57) (v := 1) hC dX5_readAny_57 ic1 ?_
          exact aw_zret1 hC dX5_readAny_58
        · skip
          refine aw_aload_n (pc := 19) (i := 0) hC dX5_readAny_19 rfl rfl ?_
          refine aw_get (pc := 20) hC inX5 (v0 (j := 8) (by decide)) rfl rfl 0 (by decide) kw120 rfl rfl dX5_readAny_20 ?_
          refine aw_bipush (pc := 23) (v := 24) hC dX5_readAny_23 bc24 ?_
          refine aw_callVI (pc := 25) (As := [.int 24]) hC mb_X8_take kw846 (by omega) (c_X8_take G C.2.1   μ3 24) (v0 (j := 3) (by decide)) rfl rfl rfl (Nat.le_of_ble_eq_true rfl) dX5_readAny_25 (fun q4 => ?_)
          refine aw_if_eq (pc := 28) (tgt := 57) hC dX5_readAny_28 (by decide) (fun _ => ?_) (fun _ => ?_)
          · skip
            refine aw_iconst (pc := 57) (v := 1) hC dX5_readAny_57 ic1 ?_
            exact aw_zret1 hC dX5_readAny_58
          · skip
            refine aw_aload_n (pc := 31) (i := 0) hC dX5_readAny_31 rfl rfl ?_
            refine aw_iload_n (pc := 32) (i := 1) hC dX5_readAny_32 rfl rfl ?_
            refine aw_callVI (pc := 33) (As := [.int a1]) hC mb_X5_readAll kw856 (by omega) (c_X5_readAll G C.2.1 lv hlv A hA q4.2 a1) (v0 (j := 8) (by decide)) rfl rfl rfl (Nat.le_of_ble_eq_true rfl) dX5_readAny_33 (fun q5 => ?_)
            refine aw_if_ne (pc := 36) (tgt := 41) hC dX5_readAny_36 (by decide) (fun _ => ?_) (fun _ => ?_)
            · skip
              refine aw_iconst (pc := 39) (v := 0) hC dX5_readAny_39 ic0 ?_
              exact aw_zret0 hC dX5_readAny_40
            · skip
              refine aw_aload_n (pc := 41) (i := 0) hC dX5_readAny_41 rfl rfl ?_
              refine aw_get (pc := 42) hC inX5 (v0 (j := 8) (by decide)) rfl rfl 1 (by decide) kw121 rfl rfl dX5_readAny_42 ?_
              refine aw_sipush (pc := 45) (v := 1014) hC dX5_readAny_45 sc1014 ?_
              refine aw_callVV (pc := 48) (As := [.int 1014]) hC mb_X4_put kw848 (by omega) (c_X4_put G C.2.1 15 (by decide) q5.2 1014) (vL (h := 15) (j := 7) (by decide) (by decide)) rfl rfl rfl (Nat.le_of_ble_eq_true rfl) dX5_readAny_48 (fun q6 => ?_)
              refine aw_iinc (pc := 51) (v := x2 + 1) hC dX5_readAny_51 rfl (congrArg (HAdd.hAdd _) ic1) rfl (by decide) ?_
              refine aw_goto (pc := 54) (tgt := 12) hC dX5_readAny_54 (by decide) ?_
              exact ih (x2 + 1) q6
    exact hL12 4096 0 q1.2
theorem dX5_readAtom_0 : decode cX5_readAtom 0 = .ok (.aload_n 0, 1) := by decide +kernel
theorem dX5_readAtom_1 : decode cX5_readAtom 1 = .ok (.getfield 9, 3) := by decide +kernel
theorem dX5_readAtom_4 : decode cX5_readAtom 4 = .ok (.invokevirtual 29, 3) := by decide +kernel
theorem dX5_readAtom_7 : decode cX5_readAtom 7 = .ok (.istore_n 2, 1) := by decide +kernel
theorem dX5_readAtom_8 : decode cX5_readAtom 8 = .ok (.iload_n 2, 1) := by decide +kernel
theorem dX5_readAtom_9 : decode cX5_readAtom 9 = .ok (.bipush 17, 2) := by decide +kernel
theorem dX5_readAtom_11 : decode cX5_readAtom 11 = .ok (.if_icmp .eq 9, 3) := by decide +kernel
theorem dX5_readAtom_14 : decode cX5_readAtom 14 = .ok (.iload_n 2, 1) := by decide +kernel
theorem dX5_readAtom_15 : decode cX5_readAtom 15 = .ok (.bipush 18, 2) := by decide +kernel
theorem dX5_readAtom_17 : decode cX5_readAtom 17 = .ok (.if_icmp .ne 27, 3) := by decide +kernel
theorem dX5_readAtom_20 : decode cX5_readAtom 20 = .ok (.aload_n 0, 1) := by decide +kernel
theorem dX5_readAtom_21 : decode cX5_readAtom 21 = .ok (.getfield 18, 3) := by decide +kernel
theorem dX5_readAtom_24 : decode cX5_readAtom 24 = .ok (.sipush 1000, 3) := by decide +kernel
theorem dX5_readAtom_27 : decode cX5_readAtom 27 = .ok (.iload_n 2, 1) := by decide +kernel
theorem dX5_readAtom_28 : decode cX5_readAtom 28 = .ok (.iadd, 1) := by decide +kernel
theorem dX5_readAtom_29 : decode cX5_readAtom 29 = .ok (.bipush 10, 2) := by decide +kernel
theorem dX5_readAtom_31 : decode cX5_readAtom 31 = .ok (.isub, 1) := by decide +kernel
theorem dX5_readAtom_32 : decode cX5_readAtom 32 = .ok (.invokevirtual 49, 3) := by decide +kernel
theorem dX5_readAtom_35 : decode cX5_readAtom 35 = .ok (.aload_n 0, 1) := by decide +kernel
theorem dX5_readAtom_36 : decode cX5_readAtom 36 = .ok (.getfield 9, 3) := by decide +kernel
theorem dX5_readAtom_39 : decode cX5_readAtom 39 = .ok (.iload_n 2, 1) := by decide +kernel
theorem dX5_readAtom_40 : decode cX5_readAtom 40 = .ok (.invokevirtual 39, 3) := by decide +kernel
theorem dX5_readAtom_43 : decode cX5_readAtom 43 = .ok (.ireturn, 1) := by decide +kernel
theorem dX5_readAtom_44 : decode cX5_readAtom 44 = .ok (.iload_n 2, 1) := by decide +kernel
theorem dX5_readAtom_45 : decode cX5_readAtom 45 = .ok (.bipush 26, 2) := by decide +kernel
theorem dX5_readAtom_47 : decode cX5_readAtom 47 = .ok (.if_icmp .eq 8, 3) := by decide +kernel
theorem dX5_readAtom_50 : decode cX5_readAtom 50 = .ok (.iload_n 2, 1) := by decide +kernel
theorem dX5_readAtom_51 : decode cX5_readAtom 51 = .ok (.iconst 4, 1) := by decide +kernel
theorem dX5_readAtom_52 : decode cX5_readAtom 52 = .ok (.if_icmp .ne 78, 3) := by decide +kernel
theorem dX5_readAtom_55 : decode cX5_readAtom 55 = .ok (.iload_n 1, 1) := by decide +kernel
theorem dX5_readAtom_56 : decode cX5_readAtom 56 = .ok (.bipush 6, 2) := by decide +kernel
theorem dX5_readAtom_58 : decode cX5_readAtom 58 = .ok (.if_icmp .ge 14, 3) := by decide +kernel
theorem dX5_readAtom_61 : decode cX5_readAtom 61 = .ok (.aload_n 0, 1) := by decide +kernel
theorem dX5_readAtom_62 : decode cX5_readAtom 62 = .ok (.getfield 9, 3) := by decide +kernel
theorem dX5_readAtom_65 : decode cX5_readAtom 65 = .ok (.iload_n 2, 1) := by decide +kernel
theorem dX5_readAtom_66 : decode cX5_readAtom 66 = .ok (.invokevirtual 39, 3) := by decide +kernel
theorem dX5_readAtom_69 : decode cX5_readAtom 69 = .ok (.ifCond .ne 5, 3) := by decide +kernel
theorem dX5_readAtom_72 : decode cX5_readAtom 72 = .ok (.iconst 0, 1) := by decide +kernel
theorem dX5_readAtom_73 : decode cX5_readAtom 73 = .ok (.ireturn, 1) := by decide +kernel
theorem dX5_readAtom_74 : decode cX5_readAtom 74 = .ok (.iload_n 2, 1) := by decide +kernel
theorem dX5_readAtom_75 : decode cX5_readAtom 75 = .ok (.iconst 4, 1) := by decide +kernel
theorem dX5_readAtom_76 : decode cX5_readAtom 76 = .ok (.if_icmp .ne 30, 3) := by decide +kernel
theorem dX5_readAtom_79 : decode cX5_readAtom 79 = .ok (.aload_n 0, 1) := by decide +kernel
theorem dX5_readAtom_80 : decode cX5_readAtom 80 = .ok (.iload_n 1, 1) := by decide +kernel
theorem dX5_readAtom_81 : decode cX5_readAtom 81 = .ok (.iconst 1, 1) := by decide +kernel
theorem dX5_readAtom_82 : decode cX5_readAtom 82 = .ok (.iadd, 1) := by decide +kernel
theorem dX5_readAtom_83 : decode cX5_readAtom 83 = .ok (.invokevirtual 53, 3) := by decide +kernel
theorem dX5_readAtom_86 : decode cX5_readAtom 86 = .ok (.ifCond .eq 18, 3) := by decide +kernel
theorem dX5_readAtom_89 : decode cX5_readAtom 89 = .ok (.aload_n 0, 1) := by decide +kernel
theorem dX5_readAtom_90 : decode cX5_readAtom 90 = .ok (.getfield 9, 3) := by decide +kernel
theorem dX5_readAtom_93 : decode cX5_readAtom 93 = .ok (.iconst 5, 1) := by decide +kernel
theorem dX5_readAtom_94 : decode cX5_readAtom 94 = .ok (.invokevirtual 39, 3) := by decide +kernel
theorem dX5_readAtom_97 : decode cX5_readAtom 97 = .ok (.ifCond .eq 7, 3) := by decide +kernel
theorem dX5_readAtom_100 : decode cX5_readAtom 100 = .ok (.iconst 1, 1) := by decide +kernel
theorem dX5_readAtom_101 : decode cX5_readAtom 101 = .ok (.goto 4, 3) := by decide +kernel
theorem dX5_readAtom_104 : decode cX5_readAtom 104 = .ok (.iconst 0, 1) := by decide +kernel
theorem dX5_readAtom_105 : decode cX5_readAtom 105 = .ok (.ireturn, 1) := by decide +kernel
theorem dX5_readAtom_106 : decode cX5_readAtom 106 = .ok (.aload_n 0, 1) := by decide +kernel
theorem dX5_readAtom_107 : decode cX5_readAtom 107 = .ok (.iload_n 1, 1) := by decide +kernel
theorem dX5_readAtom_108 : decode cX5_readAtom 108 = .ok (.iconst 1, 1) := by decide +kernel
theorem dX5_readAtom_109 : decode cX5_readAtom 109 = .ok (.iadd, 1) := by decide +kernel
theorem dX5_readAtom_110 : decode cX5_readAtom 110 = .ok (.invokevirtual 59, 3) := by decide +kernel
theorem dX5_readAtom_113 : decode cX5_readAtom 113 = .ok (.ifCond .ne 5, 3) := by decide +kernel
theorem dX5_readAtom_116 : decode cX5_readAtom 116 = .ok (.iconst 0, 1) := by decide +kernel
theorem dX5_readAtom_117 : decode cX5_readAtom 117 = .ok (.ireturn, 1) := by decide +kernel
theorem dX5_readAtom_118 : decode cX5_readAtom 118 = .ok (.aload_n 0, 1) := by decide +kernel
theorem dX5_readAtom_119 : decode cX5_readAtom 119 = .ok (.getfield 18, 3) := by decide +kernel
theorem dX5_readAtom_122 : decode cX5_readAtom 122 = .ok (.sipush 1015, 3) := by decide +kernel
theorem dX5_readAtom_125 : decode cX5_readAtom 125 = .ok (.invokevirtual 49, 3) := by decide +kernel
theorem dX5_readAtom_128 : decode cX5_readAtom 128 = .ok (.iconst 1, 1) := by decide +kernel
theorem dX5_readAtom_129 : decode cX5_readAtom 129 = .ok (.ireturn, 1) := by decide +kernel
theorem dX5_readAtom_130 : decode cX5_readAtom 130 = .ok (.aload_n 0, 1) := by decide +kernel
theorem dX5_readAtom_131 : decode cX5_readAtom 131 = .ok (.invokevirtual 62, 3) := by decide +kernel
theorem dX5_readAtom_134 : decode cX5_readAtom 134 = .ok (.ifCond .ne 5, 3) := by decide +kernel
theorem dX5_readAtom_137 : decode cX5_readAtom 137 = .ok (.iconst 0, 1) := by decide +kernel
theorem dX5_readAtom_138 : decode cX5_readAtom 138 = .ok (.ireturn, 1) := by decide +kernel
theorem dX5_readAtom_139 : decode cX5_readAtom 139 = .ok (.aload_n 0, 1) := by decide +kernel
theorem dX5_readAtom_140 : decode cX5_readAtom 140 = .ok (.getfield 9, 3) := by decide +kernel
theorem dX5_readAtom_143 : decode cX5_readAtom 143 = .ok (.invokevirtual 29, 3) := by decide +kernel
theorem dX5_readAtom_146 : decode cX5_readAtom 146 = .ok (.bipush 6, 2) := by decide +kernel
theorem dX5_readAtom_148 : decode cX5_readAtom 148 = .ok (.if_icmp .ne 9, 3) := by decide +kernel
theorem dX5_readAtom_151 : decode cX5_readAtom 151 = .ok (.sipush 1011, 3) := by decide +kernel
theorem dX5_readAtom_154 : decode cX5_readAtom 154 = .ok (.goto 6, 3) := by decide +kernel
theorem dX5_readAtom_157 : decode cX5_readAtom 157 = .ok (.sipush 1012, 3) := by decide +kernel
theorem dX5_readAtom_160 : decode cX5_readAtom 160 = .ok (.istore_n 3, 1) := by decide +kernel
theorem dX5_readAtom_161 : decode cX5_readAtom 161 = .ok (.aload_n 0, 1) := by decide +kernel
theorem dX5_readAtom_162 : decode cX5_readAtom 162 = .ok (.getfield 9, 3) := by decide +kernel
theorem dX5_readAtom_165 : decode cX5_readAtom 165 = .ok (.bipush 6, 2) := by decide +kernel
theorem dX5_readAtom_167 : decode cX5_readAtom 167 = .ok (.invokevirtual 39, 3) := by decide +kernel
theorem dX5_readAtom_170 : decode cX5_readAtom 170 = .ok (.ifCond .ne 15, 3) := by decide +kernel
theorem dX5_readAtom_173 : decode cX5_readAtom 173 = .ok (.aload_n 0, 1) := by decide +kernel
theorem dX5_readAtom_174 : decode cX5_readAtom 174 = .ok (.getfield 9, 3) := by decide +kernel
theorem dX5_readAtom_177 : decode cX5_readAtom 177 = .ok (.bipush 7, 2) := by decide +kernel
theorem dX5_readAtom_179 : decode cX5_readAtom 179 = .ok (.invokevirtual 39, 3) := by decide +kernel
theorem dX5_readAtom_182 : decode cX5_readAtom 182 = .ok (.ifCond .eq 10, 3) := by decide +kernel
theorem dX5_readAtom_185 : decode cX5_readAtom 185 = .ok (.aload_n 0, 1) := by decide +kernel
theorem dX5_readAtom_186 : decode cX5_readAtom 186 = .ok (.invokevirtual 62, 3) := by decide +kernel
theorem dX5_readAtom_189 : decode cX5_readAtom 189 = .ok (.ifCond .ne 5, 3) := by decide +kernel
theorem dX5_readAtom_192 : decode cX5_readAtom 192 = .ok (.iconst 0, 1) := by decide +kernel
theorem dX5_readAtom_193 : decode cX5_readAtom 193 = .ok (.ireturn, 1) := by decide +kernel
theorem dX5_readAtom_194 : decode cX5_readAtom 194 = .ok (.aload_n 0, 1) := by decide +kernel
theorem dX5_readAtom_195 : decode cX5_readAtom 195 = .ok (.getfield 18, 3) := by decide +kernel
theorem dX5_readAtom_198 : decode cX5_readAtom 198 = .ok (.iload_n 3, 1) := by decide +kernel
theorem dX5_readAtom_199 : decode cX5_readAtom 199 = .ok (.invokevirtual 49, 3) := by decide +kernel
theorem dX5_readAtom_202 : decode cX5_readAtom 202 = .ok (.iconst 1, 1) := by decide +kernel
theorem dX5_readAtom_203 : decode cX5_readAtom 203 = .ok (.ireturn, 1) := by decide +kernel
def f_X5_readAtomS (A : Mem → Int32 → Option (Int32 × Mem)) (μ : Mem) (a1 : Int32) : Option (Int32 × Mem) := (f_X8_kind μ).bind fun (q1 : Int32) => nm ((f_X4_put 15 μ ((1000 + q1) - 10)).bind fun (q2 : Mem) => (f_X8_take q2 q1).bind fun (q3 : Int32 × Mem) => bk q3.1 (some (q3.1, q3.2))) fun (J20 : Option (Int32 × Mem)) => if q1 = 17 then (J20) else (if q1 = 18 then (J20) else (nm (if 6 ≤ a1 then (some (0, μ)) else ((f_X8_take μ q1).bind fun (q4 : Int32 × Mem) => if q4.1 = 0 then (some (0, q4.2)) else (if q1 = 4 then ((f_X5_readAny A q4.2 (a1 + 1)).bind fun (q5 : Int32 × Mem) => if q5.1 = 0 then (some (0, q5.2)) else ((f_X8_take q5.2 5).bind fun (q6 : Int32 × Mem) => if q6.1 = 0 then (some (0, q6.2)) else (some (1, q6.2)))) else ((A q4.2 (a1 + 1)).bind fun (q7 : Int32 × Mem) => if q7.1 = 0 then (some (0, q7.2)) else ((f_X4_put 15 q7.2 1015).bind fun (q8 : Mem) => some (1, q8)))))) fun (J55 : Option (Int32 × Mem)) => if q1 = 26 then (J55) else (if q1 = 4 then (J55) else ((f_X5_readSum μ).bind fun (q9 : Int32 × Mem) => if q9.1 = 0 then (some (0, q9.2)) else ((f_X8_kind q9.2).bind fun (q10 : Int32) => nm (fun (x11 : Int32) => (f_X8_take q9.2 6).bind fun (q12 : Int32 × Mem) => nm (fun (μ13 : Mem) => (f_X5_readSum μ13).bind fun (q14 : Int32 × Mem) => if q14.1 = 0 then (some (0, q14.2)) else ((f_X4_put 15 q14.2 x11).bind fun (q15 : Mem) => some (1, q15))) fun (J185 : Mem → Option (Int32 × Mem)) => if q12.1 = 0 then ((f_X8_take q12.2 7).bind fun (q16 : Int32 × Mem) => if q16.1 = 0 then (some (0, q16.2)) else (J185 q16.2)) else (J185 q12.2)) fun (J160 : Int32 → Option (Int32 × Mem)) => if q10 = 6 then (J160 1011) else (J160 1012))))))
set_option maxHeartbeats 4000000 in
set_option maxRecDepth 100000 in
theorem c_X5_readAtomS (G : GG) (l : Launch) (lv : Nat) (hlv : 12 ≤ lv) (A : Mem → Int32 → Option (Int32 × Mem)) (hA : ∀ (μ : Mem) (a1 : Int32), CI G l yX5_readAtom (.code yX5_readAtom cX5_readAtom 4 (some .boolean)) lv [.ref (gad G 0 8), .int a1] μ (A μ a1)) (μ : Mem) (a1 : Int32) : CI G l yX5_readAtom (.code yX5_readAtom cX5_readAtom 4 (some .boolean)) (lv + 4) [.ref (gad G 0 8), .int a1] μ (f_X5_readAtomS A μ a1) := by
  refine CI.of (own := "SaturdayKeep$LawReader") (L0 := [some (.ref (gad G 0 8)), some (.int a1), none, none]) rfl rfl rfl (Nat.le_of_ble_eq_true rfl) (fun C hl hC => ?_)
  subst hl
  delta f_X5_readAtomS
  refine aw_aload_n (pc := 0) (i := 0) hC dX5_readAtom_0 rfl rfl ?_
  refine aw_get (pc := 1) hC inX5 (v0 (j := 8) (by decide)) rfl rfl 0 (by decide) kw120 rfl rfl dX5_readAtom_1 ?_
  refine aw_callVR (pc := 4) (As := []) hC mb_X8_kind kw841 (by omega) (c_X8_kind G C.2.1   μ ) (v0 (j := 3) (by decide)) rfl rfl rfl (Nat.le_of_ble_eq_true rfl) dX5_readAtom_4 (fun q1 => ?_)
  refine aw_istore_n (pc := 7) (i := 2) hC dX5_readAtom_7 rfl rfl (by decide) ?_
  refine aw_iload_n (pc := 8) (i := 2) hC dX5_readAtom_8 rfl rfl ?_
  refine aw_bipush (pc := 9) (v := 17) hC dX5_readAtom_9 bc17 ?_
  refine aw_nmJ (fun (J20 : Option (Int32 × Mem)) => AW G C (qI G C 0 0) 0 0 4 μ 20 [some (.ref (gad G 0 8)), none, some (.int q1), none] [] (J20)) ?_ (fun J20 hJ20 => ?_)
  · skip
    refine aw_aload_n (pc := 20) (i := 0) hC dX5_readAtom_20 rfl rfl ?_
    refine aw_get (pc := 21) hC inX5 (v0 (j := 8) (by decide)) rfl rfl 1 (by decide) kw121 rfl rfl dX5_readAtom_21 ?_
    refine aw_sipush (pc := 24) (v := 1000) hC dX5_readAtom_24 sc1000 ?_
    refine aw_iload_n (pc := 27) (i := 2) hC dX5_readAtom_27 rfl rfl ?_
    refine aw_iadd (pc := 28) hC dX5_readAtom_28 ?_
    refine aw_bipush (pc := 29) (v := 10) hC dX5_readAtom_29 bc10 ?_
    refine aw_isub (pc := 31) hC dX5_readAtom_31 ?_
    refine aw_callVV (pc := 32) (As := [.int ((1000 + q1) - 10)]) hC mb_X4_put kw848 (by omega) (c_X4_put G C.2.1 15 (by decide) μ ((1000 + q1) - 10)) (vL (h := 15) (j := 7) (by decide) (by decide)) rfl rfl rfl (Nat.le_of_ble_eq_true rfl) dX5_readAtom_32 (fun q2 => ?_)
    refine aw_aload_n (pc := 35) (i := 0) hC dX5_readAtom_35 rfl rfl ?_
    refine aw_get (pc := 36) hC inX5 (v0 (j := 8) (by decide)) rfl rfl 0 (by decide) kw120 rfl rfl dX5_readAtom_36 ?_
    refine aw_iload_n (pc := 39) (i := 2) hC dX5_readAtom_39 rfl rfl ?_
    refine aw_callVI (pc := 40) (As := [.int q1]) hC mb_X8_take kw846 (by omega) (c_X8_take G C.2.1   q2 q1) (v0 (j := 3) (by decide)) rfl rfl rfl (Nat.le_of_ble_eq_true rfl) dX5_readAtom_40 (fun q3 => ?_)
    exact aw_zret hC dX5_readAtom_43
  · skip
    refine aw_icmp_eq (pc := 11) (tgt := 20) hC dX5_readAtom_11 (by decide) (fun _ => ?_) (fun _ => ?_)
    · skip
      exact aw_drop [1] (hJ20)
    · skip
      refine aw_iload_n (pc := 14) (i := 2) hC dX5_readAtom_14 rfl rfl ?_
      refine aw_bipush (pc := 15) (v := 18) hC dX5_readAtom_15 bc18 ?_
      refine aw_icmp_ne (pc := 17) (tgt := 44) hC dX5_readAtom_17 (by decide) (fun _ => ?_) (fun _ => ?_)
      · skip
        exact aw_drop [1] (hJ20)
      · skip
        refine aw_iload_n (pc := 44) (i := 2) hC dX5_readAtom_44 rfl rfl ?_
        refine aw_bipush (pc := 45) (v := 26) hC dX5_readAtom_45 bc26 ?_
        refine aw_nmJ (fun (J55 : Option (Int32 × Mem)) => AW G C (qI G C 0 0) 0 0 4 μ 55 [some (.ref (gad G 0 8)), some (.int a1), some (.int q1), none] [] (J55)) ?_ (fun J55 hJ55 => ?_)
        · skip
          refine aw_iload_n (pc := 55) (i := 1) hC dX5_readAtom_55 rfl rfl ?_
          refine aw_bipush (pc := 56) (v := 6) hC dX5_readAtom_56 bc6 ?_
          refine aw_icmp_ge (pc := 58) (tgt := 72) hC dX5_readAtom_58 (by decide) (fun _ => ?_) (fun _ => ?_)
          · skip
            refine aw_iconst (pc := 72) (v := 0) hC dX5_readAtom_72 ic0 ?_
            exact aw_zret0 hC dX5_readAtom_73
          · skip
            refine aw_aload_n (pc := 61) (i := 0) hC dX5_readAtom_61 rfl rfl ?_
            refine aw_get (pc := 62) hC inX5 (v0 (j := 8) (by decide)) rfl rfl 0 (by decide) kw120 rfl rfl dX5_readAtom_62 ?_
            refine aw_iload_n (pc := 65) (i := 2) hC dX5_readAtom_65 rfl rfl ?_
            refine aw_callVI (pc := 66) (As := [.int q1]) hC mb_X8_take kw846 (by omega) (c_X8_take G C.2.1   μ q1) (v0 (j := 3) (by decide)) rfl rfl rfl (Nat.le_of_ble_eq_true rfl) dX5_readAtom_66 (fun q4 => ?_)
            refine aw_if_ne (pc := 69) (tgt := 74) hC dX5_readAtom_69 (by decide) (fun _ => ?_) (fun _ => ?_)
            · skip
              refine aw_iconst (pc := 72) (v := 0) hC dX5_readAtom_72 ic0 ?_
              exact aw_zret0 hC dX5_readAtom_73
            · skip
              refine aw_iload_n (pc := 74) (i := 2) hC dX5_readAtom_74 rfl rfl ?_
              refine aw_iconst (pc := 75) (v := 4) hC dX5_readAtom_75 ic4 ?_
              refine aw_icmp_ne (pc := 76) (tgt := 106) hC dX5_readAtom_76 (by decide) (fun _ => ?_) (fun _ => ?_)
              · skip
                refine aw_aload_n (pc := 79) (i := 0) hC dX5_readAtom_79 rfl rfl ?_
                refine aw_iload_n (pc := 80) (i := 1) hC dX5_readAtom_80 rfl rfl ?_
                refine aw_iconst (pc := 81) (v := 1) hC dX5_readAtom_81 ic1 ?_
                refine aw_iadd (pc := 82) hC dX5_readAtom_82 ?_
                refine aw_callVI (pc := 83) (As := [.int (a1 + 1)]) hC mb_X5_readAny kw852 (by omega) (c_X5_readAny G C.2.1 lv hlv A hA q4.2 (a1 + 1)) (v0 (j := 8) (by decide)) rfl rfl rfl (Nat.le_of_ble_eq_true rfl) dX5_readAtom_83 (fun q5 => ?_)
                refine aw_if_eq (pc := 86) (tgt := 104) hC dX5_readAtom_86 (by decide) (fun _ => ?_) (fun _ => ?_)
                · skip
                  refine aw_iconst (pc := 104) (v := 0) hC dX5_readAtom_104 ic0 ?_
                  exact aw_zret0 hC dX5_readAtom_105
                · skip
                  refine aw_aload_n (pc := 89) (i := 0) hC dX5_readAtom_89 rfl rfl ?_
                  refine aw_get (pc := 90) hC inX5 (v0 (j := 8) (by decide)) rfl rfl 0 (by decide) kw120 rfl rfl dX5_readAtom_90 ?_
                  refine aw_iconst (pc := 93) (v := 5) hC dX5_readAtom_93 ic5 ?_
                  refine aw_callVI (pc := 94) (As := [.int 5]) hC mb_X8_take kw846 (by omega) (c_X8_take G C.2.1   q5.2 5) (v0 (j := 3) (by decide)) rfl rfl rfl (Nat.le_of_ble_eq_true rfl) dX5_readAtom_94 (fun q6 => ?_)
                  refine aw_if_eq (pc := 97) (tgt := 104) hC dX5_readAtom_97 (by decide) (fun _ => ?_) (fun _ => ?_)
                  · skip
                    refine aw_iconst (pc := 104) (v := 0) hC dX5_readAtom_104 ic0 ?_
                    exact aw_zret0 hC dX5_readAtom_105
                  · skip
                    refine aw_iconst (pc := 100) (v := 1) hC dX5_readAtom_100 ic1 ?_
                    refine aw_goto (pc := 101) (tgt := 105) hC dX5_readAtom_101 (by decide) ?_
                    exact aw_zret1 hC dX5_readAtom_105
              · skip
                refine aw_aload_n (pc := 106) (i := 0) hC dX5_readAtom_106 rfl rfl ?_
                refine aw_iload_n (pc := 107) (i := 1) hC dX5_readAtom_107 rfl rfl ?_
                refine aw_iconst (pc := 108) (v := 1) hC dX5_readAtom_108 ic1 ?_
                refine aw_iadd (pc := 109) hC dX5_readAtom_109 ?_
                refine aw_callVI (pc := 110) (As := [.int (a1 + 1)]) hC mb_X5_readAtom kw860 (by omega) (hA q4.2 (a1 + 1)) (v0 (j := 8) (by decide)) rfl rfl rfl (Nat.le_of_ble_eq_true rfl) dX5_readAtom_110 (fun q7 => ?_)
                refine aw_if_ne (pc := 113) (tgt := 118) hC dX5_readAtom_113 (by decide) (fun _ => ?_) (fun _ => ?_)
                · skip
                  refine aw_iconst (pc := 116) (v := 0) hC dX5_readAtom_116 ic0 ?_
                  exact aw_zret0 hC dX5_readAtom_117
                · skip
                  refine aw_aload_n (pc := 118) (i := 0) hC dX5_readAtom_118 rfl rfl ?_
                  refine aw_get (pc := 119) hC inX5 (v0 (j := 8) (by decide)) rfl rfl 1 (by decide) kw121 rfl rfl dX5_readAtom_119 ?_
                  refine aw_sipush (pc := 122) (v := 1015) hC dX5_readAtom_122 sc1015 ?_
                  refine aw_callVV (pc := 125) (As := [.int 1015]) hC mb_X4_put kw848 (by omega) (c_X4_put G C.2.1 15 (by decide) q7.2 1015) (vL (h := 15) (j := 7) (by decide) (by decide)) rfl rfl rfl (Nat.le_of_ble_eq_true rfl) dX5_readAtom_125 (fun q8 => ?_)
                  refine aw_iconst (pc := 128) (v := 1) hC dX5_readAtom_128 ic1 ?_
                  exact aw_zret1 hC dX5_readAtom_129
        · skip
          refine aw_icmp_eq (pc := 47) (tgt := 55) hC dX5_readAtom_47 (by decide) (fun _ => ?_) (fun _ => ?_)
          · skip
            exact hJ55
          · skip
            refine aw_iload_n (pc := 50) (i := 2) hC dX5_readAtom_50 rfl rfl ?_
            refine aw_iconst (pc := 51) (v := 4) hC dX5_readAtom_51 ic4 ?_
            refine aw_icmp_ne (pc := 52) (tgt := 130) hC dX5_readAtom_52 (by decide) (fun _ => ?_) (fun _ => ?_)
            · skip
              exact hJ55
            · skip
              refine aw_aload_n (pc := 130) (i := 0) hC dX5_readAtom_130 rfl rfl ?_
              refine aw_callVI (pc := 131) (As := []) hC mb_X5_readSum kw864 (by omega) (c_X5_readSum G C.2.1   μ ) (v0 (j := 8) (by decide)) rfl rfl rfl (Nat.le_of_ble_eq_true rfl) dX5_readAtom_131 (fun q9 => ?_)
              refine aw_if_ne (pc := 134) (tgt := 139) hC dX5_readAtom_134 (by decide) (fun _ => ?_) (fun _ => ?_)
              · skip
                refine aw_iconst (pc := 137) (v := 0) hC dX5_readAtom_137 ic0 ?_
                exact aw_zret0 hC dX5_readAtom_138
              · skip
                refine aw_aload_n (pc := 139) (i := 0) hC dX5_readAtom_139 rfl rfl ?_
                refine aw_get (pc := 140) hC inX5 (v0 (j := 8) (by decide)) rfl rfl 0 (by decide) kw120 rfl rfl dX5_readAtom_140 ?_
                refine aw_callVR (pc := 143) (As := []) hC mb_X8_kind kw841 (by omega) (c_X8_kind G C.2.1   q9.2 ) (v0 (j := 3) (by decide)) rfl rfl rfl (Nat.le_of_ble_eq_true rfl) dX5_readAtom_143 (fun q10 => ?_)
                refine aw_bipush (pc := 146) (v := 6) hC dX5_readAtom_146 bc6 ?_
                refine aw_nmJ (fun (J160 : Int32 → Option (Int32 × Mem)) => ∀ (x11 : Int32), AW G C (qI G C 0 0) 0 0 4 q9.2 160 [some (.ref (gad G 0 8)), none, none, none] [.int x11] (J160 x11)) (fun x11 => ?_) (fun J160 hJ160 => ?_)
                · skip
                  refine aw_istore_n (pc := 160) (i := 3) hC dX5_readAtom_160 rfl rfl (by decide) ?_
                  refine aw_aload_n (pc := 161) (i := 0) hC dX5_readAtom_161 rfl rfl ?_
                  refine aw_get (pc := 162) hC inX5 (v0 (j := 8) (by decide)) rfl rfl 0 (by decide) kw120 rfl rfl dX5_readAtom_162 ?_
                  refine aw_bipush (pc := 165) (v := 6) hC dX5_readAtom_165 bc6 ?_
                  refine aw_callVI (pc := 167) (As := [.int 6]) hC mb_X8_take kw846 (by omega) (c_X8_take G C.2.1   q9.2 6) (v0 (j := 3) (by decide)) rfl rfl rfl (Nat.le_of_ble_eq_true rfl) dX5_readAtom_167 (fun q12 => ?_)
                  refine aw_nmJ (fun (J185 : Mem → Option (Int32 × Mem)) => ∀ (μ13 : Mem), AW G C (qI G C 0 0) 0 0 4 μ13 185 [some (.ref (gad G 0 8)), none, none, some (.int x11)] [] (J185 μ13)) (fun μ13 => ?_) (fun J185 hJ185 => ?_)
                  · skip
                    refine aw_aload_n (pc := 185) (i := 0) hC dX5_readAtom_185 rfl rfl ?_
                    refine aw_callVI (pc := 186) (As := []) hC mb_X5_readSum kw864 (by omega) (c_X5_readSum G C.2.1   μ13 ) (v0 (j := 8) (by decide)) rfl rfl rfl (Nat.le_of_ble_eq_true rfl) dX5_readAtom_186 (fun q14 => ?_)
                    refine aw_if_ne (pc := 189) (tgt := 194) hC dX5_readAtom_189 (by decide) (fun _ => ?_) (fun _ => ?_)
                    · skip
                      refine aw_iconst (pc := 192) (v := 0) hC dX5_readAtom_192 ic0 ?_
                      exact aw_zret0 hC dX5_readAtom_193
                    · skip
                      refine aw_aload_n (pc := 194) (i := 0) hC dX5_readAtom_194 rfl rfl ?_
                      refine aw_get (pc := 195) hC inX5 (v0 (j := 8) (by decide)) rfl rfl 1 (by decide) kw121 rfl rfl dX5_readAtom_195 ?_
                      refine aw_iload_n (pc := 198) (i := 3) hC dX5_readAtom_198 rfl rfl ?_
                      refine aw_callVV (pc := 199) (As := [.int x11]) hC mb_X4_put kw848 (by omega) (c_X4_put G C.2.1 15 (by decide) q14.2 x11) (vL (h := 15) (j := 7) (by decide) (by decide)) rfl rfl rfl (Nat.le_of_ble_eq_true rfl) dX5_readAtom_199 (fun q15 => ?_)
                      refine aw_iconst (pc := 202) (v := 1) hC dX5_readAtom_202 ic1 ?_
                      exact aw_zret1 hC dX5_readAtom_203
                  · skip
                    refine aw_if_ne (pc := 170) (tgt := 185) hC dX5_readAtom_170 (by decide) (fun _ => ?_) (fun _ => ?_)
                    · skip
                      refine aw_aload_n (pc := 173) (i := 0) hC dX5_readAtom_173 rfl rfl ?_
                      refine aw_get (pc := 174) hC inX5 (v0 (j := 8) (by decide)) rfl rfl 0 (by decide) kw120 rfl rfl dX5_readAtom_174 ?_
                      refine aw_bipush (pc := 177) (v := 7) hC dX5_readAtom_177 bc7 ?_
                      refine aw_callVI (pc := 179) (As := [.int 7]) hC mb_X8_take kw846 (by omega) (c_X8_take G C.2.1   q12.2 7) (v0 (j := 3) (by decide)) rfl rfl rfl (Nat.le_of_ble_eq_true rfl) dX5_readAtom_179 (fun q16 => ?_)
                      refine aw_if_eq (pc := 182) (tgt := 192) hC dX5_readAtom_182 (by decide) (fun _ => ?_) (fun _ => ?_)
                      · skip
                        refine aw_iconst (pc := 192) (v := 0) hC dX5_readAtom_192 ic0 ?_
                        exact aw_zret0 hC dX5_readAtom_193
                      · skip
                        exact hJ185 q16.2
                    · skip
                      exact hJ185 q12.2
                · skip
                  refine aw_icmp_ne (pc := 148) (tgt := 157) hC dX5_readAtom_148 (by decide) (fun _ => ?_) (fun _ => ?_)
                  · skip
                    refine aw_sipush (pc := 151) (v := 1011) hC dX5_readAtom_151 sc1011 ?_
                    refine aw_goto (pc := 154) (tgt := 160) hC dX5_readAtom_154 (by decide) ?_
                    exact aw_drop [1, 2] (hJ160 1011)
                  · skip
                    refine aw_sipush (pc := 157) (v := 1012) hC dX5_readAtom_157 sc1012 ?_
                    exact aw_drop [1, 2] (hJ160 1012)
def f_X5_readAtom : Nat → Mem → Int32 → Option (Int32 × Mem)
  | 0, _, _ => none
  | d + 1, μ, a1 => f_X5_readAtomS (f_X5_readAtom d) μ a1
theorem c_X5_readAtom (G : GG) (l : Launch) : ∀ (d : Nat) (μ : Mem) (a1 : Int32), CI G l yX5_readAtom (.code yX5_readAtom cX5_readAtom 4 (some .boolean)) (12 + 4 * d) [.ref (gad G 0 8), .int a1] μ (f_X5_readAtom d μ a1) := by
  intro d
  induction d with
  | zero => intro μ a1 x hx; cases hx
  | succ d ih =>
    intro μ a1
    have h := c_X5_readAtomS G l (12 + 4 * d) (by omega) (f_X5_readAtom d) ih μ a1
    rw [show 12 + 4 * (d + 1) = 12 + 4 * d + 4 by omega]
    exact h
theorem dX5_readLine_0 : decode cX5_readLine 0 = .ok (.aload_n 0, 1) := by decide +kernel
theorem dX5_readLine_1 : decode cX5_readLine 1 = .ok (.getfield 9, 3) := by decide +kernel
theorem dX5_readLine_4 : decode cX5_readLine 4 = .ok (.invokevirtual 29, 3) := by decide +kernel
theorem dX5_readLine_7 : decode cX5_readLine 7 = .ok (.bipush 21, 2) := by decide +kernel
theorem dX5_readLine_9 : decode cX5_readLine 9 = .ok (.if_icmp .ne 9, 3) := by decide +kernel
theorem dX5_readLine_12 : decode cX5_readLine 12 = .ok (.sipush 1100, 3) := by decide +kernel
theorem dX5_readLine_15 : decode cX5_readLine 15 = .ok (.goto 6, 3) := by decide +kernel
theorem dX5_readLine_18 : decode cX5_readLine 18 = .ok (.sipush 1200, 3) := by decide +kernel
theorem dX5_readLine_21 : decode cX5_readLine 21 = .ok (.istore_n 1, 1) := by decide +kernel
theorem dX5_readLine_22 : decode cX5_readLine 22 = .ok (.aload_n 0, 1) := by decide +kernel
theorem dX5_readLine_23 : decode cX5_readLine 23 = .ok (.getfield 9, 3) := by decide +kernel
theorem dX5_readLine_26 : decode cX5_readLine 26 = .ok (.bipush 21, 2) := by decide +kernel
theorem dX5_readLine_28 : decode cX5_readLine 28 = .ok (.invokevirtual 39, 3) := by decide +kernel
theorem dX5_readLine_31 : decode cX5_readLine 31 = .ok (.ifCond .ne 17, 3) := by decide +kernel
theorem dX5_readLine_34 : decode cX5_readLine 34 = .ok (.aload_n 0, 1) := by decide +kernel
theorem dX5_readLine_35 : decode cX5_readLine 35 = .ok (.getfield 9, 3) := by decide +kernel
theorem dX5_readLine_38 : decode cX5_readLine 38 = .ok (.bipush 22, 2) := by decide +kernel
theorem dX5_readLine_40 : decode cX5_readLine 40 = .ok (.invokevirtual 39, 3) := by decide +kernel
theorem dX5_readLine_43 : decode cX5_readLine 43 = .ok (.ifCond .ne 5, 3) := by decide +kernel
theorem dX5_readLine_46 : decode cX5_readLine 46 = .ok (.iconst 0, 1) := by decide +kernel
theorem dX5_readLine_47 : decode cX5_readLine 47 = .ok (.ireturn, 1) := by decide +kernel
theorem dX5_readLine_48 : decode cX5_readLine 48 = .ok (.aload_n 0, 1) := by decide +kernel
theorem dX5_readLine_49 : decode cX5_readLine 49 = .ok (.getfield 9, 3) := by decide +kernel
theorem dX5_readLine_52 : decode cX5_readLine 52 = .ok (.bipush 30, 2) := by decide +kernel
theorem dX5_readLine_54 : decode cX5_readLine 54 = .ok (.invokevirtual 43, 3) := by decide +kernel
theorem dX5_readLine_57 : decode cX5_readLine 57 = .ok (.ifCond .ne 5, 3) := by decide +kernel
theorem dX5_readLine_60 : decode cX5_readLine 60 = .ok (.iconst 0, 1) := by decide +kernel
theorem dX5_readLine_61 : decode cX5_readLine 61 = .ok (.ireturn, 1) := by decide +kernel
theorem dX5_readLine_62 : decode cX5_readLine 62 = .ok (.iload_n 1, 1) := by decide +kernel
theorem dX5_readLine_63 : decode cX5_readLine 63 = .ok (.aload_n 0, 1) := by decide +kernel
theorem dX5_readLine_64 : decode cX5_readLine 64 = .ok (.getfield 9, 3) := by decide +kernel
theorem dX5_readLine_67 : decode cX5_readLine 67 = .ok (.getfield 46, 3) := by decide +kernel
theorem dX5_readLine_70 : decode cX5_readLine 70 = .ok (.iadd, 1) := by decide +kernel
theorem dX5_readLine_71 : decode cX5_readLine 71 = .ok (.istore_n 2, 1) := by decide +kernel
theorem dX5_readLine_72 : decode cX5_readLine 72 = .ok (.aload_n 0, 1) := by decide +kernel
theorem dX5_readLine_73 : decode cX5_readLine 73 = .ok (.getfield 9, 3) := by decide +kernel
theorem dX5_readLine_76 : decode cX5_readLine 76 = .ok (.bipush 23, 2) := by decide +kernel
theorem dX5_readLine_78 : decode cX5_readLine 78 = .ok (.invokevirtual 39, 3) := by decide +kernel
theorem dX5_readLine_81 : decode cX5_readLine 81 = .ok (.ifCond .ne 14, 3) := by decide +kernel
theorem dX5_readLine_84 : decode cX5_readLine 84 = .ok (.aload_n 0, 1) := by decide +kernel
theorem dX5_readLine_85 : decode cX5_readLine 85 = .ok (.getfield 18, 3) := by decide +kernel
theorem dX5_readLine_88 : decode cX5_readLine 88 = .ok (.iconst 1, 1) := by decide +kernel
theorem dX5_readLine_89 : decode cX5_readLine 89 = .ok (.invokevirtual 49, 3) := by decide +kernel
theorem dX5_readLine_92 : decode cX5_readLine 92 = .ok (.goto 13, 3) := by decide +kernel
theorem dX5_readLine_95 : decode cX5_readLine 95 = .ok (.aload_n 0, 1) := by decide +kernel
theorem dX5_readLine_96 : decode cX5_readLine 96 = .ok (.iconst 0, 1) := by decide +kernel
theorem dX5_readLine_97 : decode cX5_readLine 97 = .ok (.invokevirtual 53, 3) := by decide +kernel
theorem dX5_readLine_100 : decode cX5_readLine 100 = .ok (.ifCond .ne 5, 3) := by decide +kernel
theorem dX5_readLine_103 : decode cX5_readLine 103 = .ok (.iconst 0, 1) := by decide +kernel
theorem dX5_readLine_104 : decode cX5_readLine 104 = .ok (.ireturn, 1) := by decide +kernel
theorem dX5_readLine_105 : decode cX5_readLine 105 = .ok (.aload_n 0, 1) := by decide +kernel
theorem dX5_readLine_106 : decode cX5_readLine 106 = .ok (.getfield 18, 3) := by decide +kernel
theorem dX5_readLine_109 : decode cX5_readLine 109 = .ok (.iload_n 2, 1) := by decide +kernel
theorem dX5_readLine_110 : decode cX5_readLine 110 = .ok (.invokevirtual 49, 3) := by decide +kernel
theorem dX5_readLine_113 : decode cX5_readLine 113 = .ok (.iconst 1, 1) := by decide +kernel
theorem dX5_readLine_114 : decode cX5_readLine 114 = .ok (.ireturn, 1) := by decide +kernel
def f_X5_readLine (μ : Mem) : Option (Int32 × Mem) := (f_X8_kind μ).bind fun (q1 : Int32) => nm (fun (x2 : Int32) => (f_X8_take μ 21).bind fun (q3 : Int32 × Mem) => nm (fun (μ4 : Mem) => (f_X8_takeNumber μ4 30).bind fun (q5 : Int32 × Mem) => if q5.1 = 0 then (some (0, q5.2)) else ((f_X8_take q5.2 23).bind fun (q6 : Int32 × Mem) => nm (fun (μ7 : Mem) => (f_X4_put 15 μ7 (x2 + (q5.2 0 3 5))).bind fun (q8 : Mem) => some (1, q8)) fun (J105 : Mem → Option (Int32 × Mem)) => if q6.1 = 0 then ((f_X4_put 15 q6.2 1).bind fun (q9 : Mem) => J105 q9) else ((f_X5_readAny (f_X5_readAtom 10) q6.2 0).bind fun (q10 : Int32 × Mem) => if q10.1 = 0 then (some (0, q10.2)) else (J105 q10.2)))) fun (J48 : Mem → Option (Int32 × Mem)) => if q3.1 = 0 then ((f_X8_take q3.2 22).bind fun (q11 : Int32 × Mem) => if q11.1 = 0 then (some (0, q11.2)) else (J48 q11.2)) else (J48 q3.2)) fun (J21 : Int32 → Option (Int32 × Mem)) => if q1 = 21 then (J21 1100) else (J21 1200)
set_option maxHeartbeats 4000000 in
set_option maxRecDepth 100000 in
theorem c_X5_readLine (G : GG) (l : Launch) (μ : Mem) : CI G l yX5_readLine (.code yX5_readLine cX5_readLine 3 (some .boolean)) 55 [.ref (gad G 0 8)] μ (f_X5_readLine μ) := by
  refine CI.of (own := "SaturdayKeep$LawReader") (L0 := [some (.ref (gad G 0 8)), none, none]) rfl rfl rfl (Nat.le_of_ble_eq_true rfl) (fun C hl hC => ?_)
  subst hl
  delta f_X5_readLine
  refine aw_aload_n (pc := 0) (i := 0) hC dX5_readLine_0 rfl rfl ?_
  refine aw_get (pc := 1) hC inX5 (v0 (j := 8) (by decide)) rfl rfl 0 (by decide) kw120 rfl rfl dX5_readLine_1 ?_
  refine aw_callVR (pc := 4) (As := []) hC mb_X8_kind kw841 (by omega) (c_X8_kind G C.2.1   μ ) (v0 (j := 3) (by decide)) rfl rfl rfl (Nat.le_of_ble_eq_true rfl) dX5_readLine_4 (fun q1 => ?_)
  refine aw_bipush (pc := 7) (v := 21) hC dX5_readLine_7 bc21 ?_
  refine aw_nmJ (fun (J21 : Int32 → Option (Int32 × Mem)) => ∀ (x2 : Int32), AW G C (qI G C 0 0) 0 0 3 μ 21 [some (.ref (gad G 0 8)), none, none] [.int x2] (J21 x2)) (fun x2 => ?_) (fun J21 hJ21 => ?_)
  · skip
    refine aw_istore_n (pc := 21) (i := 1) hC dX5_readLine_21 rfl rfl (by decide) ?_
    refine aw_aload_n (pc := 22) (i := 0) hC dX5_readLine_22 rfl rfl ?_
    refine aw_get (pc := 23) hC inX5 (v0 (j := 8) (by decide)) rfl rfl 0 (by decide) kw120 rfl rfl dX5_readLine_23 ?_
    refine aw_bipush (pc := 26) (v := 21) hC dX5_readLine_26 bc21 ?_
    refine aw_callVI (pc := 28) (As := [.int 21]) hC mb_X8_take kw846 (by omega) (c_X8_take G C.2.1   μ 21) (v0 (j := 3) (by decide)) rfl rfl rfl (Nat.le_of_ble_eq_true rfl) dX5_readLine_28 (fun q3 => ?_)
    refine aw_nmJ (fun (J48 : Mem → Option (Int32 × Mem)) => ∀ (μ4 : Mem), AW G C (qI G C 0 0) 0 0 3 μ4 48 [some (.ref (gad G 0 8)), some (.int x2), none] [] (J48 μ4)) (fun μ4 => ?_) (fun J48 hJ48 => ?_)
    · skip
      refine aw_aload_n (pc := 48) (i := 0) hC dX5_readLine_48 rfl rfl ?_
      refine aw_get (pc := 49) hC inX5 (v0 (j := 8) (by decide)) rfl rfl 0 (by decide) kw120 rfl rfl dX5_readLine_49 ?_
      refine aw_bipush (pc := 52) (v := 30) hC dX5_readLine_52 bc30 ?_
      refine aw_callVI (pc := 54) (As := [.int 30]) hC mb_X8_takeNumber kw847 (by omega) (c_X8_takeNumber G C.2.1   μ4 30) (v0 (j := 3) (by decide)) rfl rfl rfl (Nat.le_of_ble_eq_true rfl) dX5_readLine_54 (fun q5 => ?_)
      refine aw_if_ne (pc := 57) (tgt := 62) hC dX5_readLine_57 (by decide) (fun _ => ?_) (fun _ => ?_)
      · skip
        refine aw_iconst (pc := 60) (v := 0) hC dX5_readLine_60 ic0 ?_
        exact aw_zret0 hC dX5_readLine_61
      · skip
        refine aw_iload_n (pc := 62) (i := 1) hC dX5_readLine_62 rfl rfl ?_
        refine aw_aload_n (pc := 63) (i := 0) hC dX5_readLine_63 rfl rfl ?_
        refine aw_get (pc := 64) hC inX5 (v0 (j := 8) (by decide)) rfl rfl 0 (by decide) kw120 rfl rfl dX5_readLine_64 ?_
        refine aw_get (pc := 67) hC inX8 (v0 (j := 3) (by decide)) rfl rfl 5 (by decide) kw63 rfl rfl dX5_readLine_67 ?_
        refine aw_iadd (pc := 70) hC dX5_readLine_70 ?_
        refine aw_istore_n (pc := 71) (i := 2) hC dX5_readLine_71 rfl rfl (by decide) ?_
        refine aw_aload_n (pc := 72) (i := 0) hC dX5_readLine_72 rfl rfl ?_
        refine aw_get (pc := 73) hC inX5 (v0 (j := 8) (by decide)) rfl rfl 0 (by decide) kw120 rfl rfl dX5_readLine_73 ?_
        refine aw_bipush (pc := 76) (v := 23) hC dX5_readLine_76 bc23 ?_
        refine aw_callVI (pc := 78) (As := [.int 23]) hC mb_X8_take kw846 (by omega) (c_X8_take G C.2.1   q5.2 23) (v0 (j := 3) (by decide)) rfl rfl rfl (Nat.le_of_ble_eq_true rfl) dX5_readLine_78 (fun q6 => ?_)
        refine aw_nmJ (fun (J105 : Mem → Option (Int32 × Mem)) => ∀ (μ7 : Mem), AW G C (qI G C 0 0) 0 0 3 μ7 105 [some (.ref (gad G 0 8)), none, some (.int (x2 + (q5.2 0 3 5)))] [] (J105 μ7)) (fun μ7 => ?_) (fun J105 hJ105 => ?_)
        · skip
          refine aw_aload_n (pc := 105) (i := 0) hC dX5_readLine_105 rfl rfl ?_
          refine aw_get (pc := 106) hC inX5 (v0 (j := 8) (by decide)) rfl rfl 1 (by decide) kw121 rfl rfl dX5_readLine_106 ?_
          refine aw_iload_n (pc := 109) (i := 2) hC dX5_readLine_109 rfl rfl ?_
          refine aw_callVV (pc := 110) (As := [.int (x2 + (q5.2 0 3 5))]) hC mb_X4_put kw848 (by omega) (c_X4_put G C.2.1 15 (by decide) μ7 (x2 + (q5.2 0 3 5))) (vL (h := 15) (j := 7) (by decide) (by decide)) rfl rfl rfl (Nat.le_of_ble_eq_true rfl) dX5_readLine_110 (fun q8 => ?_)
          refine aw_iconst (pc := 113) (v := 1) hC dX5_readLine_113 ic1 ?_
          exact aw_zret1 hC dX5_readLine_114
        · skip
          refine aw_if_ne (pc := 81) (tgt := 95) hC dX5_readLine_81 (by decide) (fun _ => ?_) (fun _ => ?_)
          · skip
            refine aw_aload_n (pc := 84) (i := 0) hC dX5_readLine_84 rfl rfl ?_
            refine aw_get (pc := 85) hC inX5 (v0 (j := 8) (by decide)) rfl rfl 1 (by decide) kw121 rfl rfl dX5_readLine_85 ?_
            refine aw_iconst (pc := 88) (v := 1) hC dX5_readLine_88 ic1 ?_
            refine aw_callVV (pc := 89) (As := [.int 1]) hC mb_X4_put kw848 (by omega) (c_X4_put G C.2.1 15 (by decide) q6.2 1) (vL (h := 15) (j := 7) (by decide) (by decide)) rfl rfl rfl (Nat.le_of_ble_eq_true rfl) dX5_readLine_89 (fun q9 => ?_)
            refine aw_goto (pc := 92) (tgt := 105) hC dX5_readLine_92 (by decide) ?_
            exact aw_drop [1] (hJ105 q9)
          · skip
            refine aw_aload_n (pc := 95) (i := 0) hC dX5_readLine_95 rfl rfl ?_
            refine aw_iconst (pc := 96) (v := 0) hC dX5_readLine_96 ic0 ?_
            refine aw_callVI (pc := 97) (As := [.int 0]) hC mb_X5_readAny kw852 (by omega) (c_X5_readAny G C.2.1 52 (by decide) (f_X5_readAtom 10) (c_X5_readAtom G C.2.1 10) q6.2 0) (v0 (j := 8) (by decide)) rfl rfl rfl (Nat.le_of_ble_eq_true rfl) dX5_readLine_97 (fun q10 => ?_)
            refine aw_if_ne (pc := 100) (tgt := 105) hC dX5_readLine_100 (by decide) (fun _ => ?_) (fun _ => ?_)
            · skip
              refine aw_iconst (pc := 103) (v := 0) hC dX5_readLine_103 ic0 ?_
              exact aw_zret0 hC dX5_readLine_104
            · skip
              exact aw_drop [1] (hJ105 q10.2)
    · skip
      refine aw_if_ne (pc := 31) (tgt := 48) hC dX5_readLine_31 (by decide) (fun _ => ?_) (fun _ => ?_)
      · skip
        refine aw_aload_n (pc := 34) (i := 0) hC dX5_readLine_34 rfl rfl ?_
        refine aw_get (pc := 35) hC inX5 (v0 (j := 8) (by decide)) rfl rfl 0 (by decide) kw120 rfl rfl dX5_readLine_35 ?_
        refine aw_bipush (pc := 38) (v := 22) hC dX5_readLine_38 bc22 ?_
        refine aw_callVI (pc := 40) (As := [.int 22]) hC mb_X8_take kw846 (by omega) (c_X8_take G C.2.1   q3.2 22) (v0 (j := 3) (by decide)) rfl rfl rfl (Nat.le_of_ble_eq_true rfl) dX5_readLine_40 (fun q11 => ?_)
        refine aw_if_ne (pc := 43) (tgt := 48) hC dX5_readLine_43 (by decide) (fun _ => ?_) (fun _ => ?_)
        · skip
          refine aw_iconst (pc := 46) (v := 0) hC dX5_readLine_46 ic0 ?_
          exact aw_zret0 hC dX5_readLine_47
        · skip
          exact hJ48 q11.2
      · skip
        exact hJ48 q3.2
  · skip
    refine aw_icmp_ne (pc := 9) (tgt := 18) hC dX5_readLine_9 (by decide) (fun _ => ?_) (fun _ => ?_)
    · skip
      refine aw_sipush (pc := 12) (v := 1100) hC dX5_readLine_12 sc1100 ?_
      refine aw_goto (pc := 15) (tgt := 21) hC dX5_readLine_15 (by decide) ?_
      exact hJ21 1100
    · skip
      refine aw_sipush (pc := 18) (v := 1200) hC dX5_readLine_18 sc1200 ?_
      exact hJ21 1200
theorem dX5_read_0 : decode cX5_read 0 = .ok (.aload_n 0, 1) := by decide +kernel
theorem dX5_read_1 : decode cX5_read 1 = .ok (.getfield 18, 3) := by decide +kernel
theorem dX5_read_4 : decode cX5_read 4 = .ok (.iconst 0, 1) := by decide +kernel
theorem dX5_read_5 : decode cX5_read 5 = .ok (.putfield 22, 3) := by decide +kernel
theorem dX5_read_8 : decode cX5_read 8 = .ok (.aload_n 0, 1) := by decide +kernel
theorem dX5_read_9 : decode cX5_read 9 = .ok (.getfield 18, 3) := by decide +kernel
theorem dX5_read_12 : decode cX5_read 12 = .ok (.iconst 0, 1) := by decide +kernel
theorem dX5_read_13 : decode cX5_read 13 = .ok (.putfield 26, 3) := by decide +kernel
theorem dX5_read_16 : decode cX5_read 16 = .ok (.aload_n 0, 1) := by decide +kernel
theorem dX5_read_17 : decode cX5_read 17 = .ok (.getfield 9, 3) := by decide +kernel
theorem dX5_read_20 : decode cX5_read 20 = .ok (.invokevirtual 29, 3) := by decide +kernel
theorem dX5_read_23 : decode cX5_read 23 = .ok (.ifCond .ne 5, 3) := by decide +kernel
theorem dX5_read_26 : decode cX5_read 26 = .ok (.iconst 1, 1) := by decide +kernel
theorem dX5_read_27 : decode cX5_read 27 = .ok (.ireturn, 1) := by decide +kernel
theorem dX5_read_28 : decode cX5_read 28 = .ok (.aload_n 0, 1) := by decide +kernel
theorem dX5_read_29 : decode cX5_read 29 = .ok (.getfield 18, 3) := by decide +kernel
theorem dX5_read_32 : decode cX5_read 32 = .ok (.getfield 26, 3) := by decide +kernel
theorem dX5_read_35 : decode cX5_read 35 = .ok (.bipush 12, 2) := by decide +kernel
theorem dX5_read_37 : decode cX5_read 37 = .ok (.if_icmp .ge 10, 3) := by decide +kernel
theorem dX5_read_40 : decode cX5_read 40 = .ok (.aload_n 0, 1) := by decide +kernel
theorem dX5_read_41 : decode cX5_read 41 = .ok (.invokevirtual 35, 3) := by decide +kernel
theorem dX5_read_44 : decode cX5_read 44 = .ok (.ifCond .ne 5, 3) := by decide +kernel
theorem dX5_read_47 : decode cX5_read 47 = .ok (.iconst 0, 1) := by decide +kernel
theorem dX5_read_48 : decode cX5_read 48 = .ok (.ireturn, 1) := by decide +kernel
theorem dX5_read_49 : decode cX5_read 49 = .ok (.aload_n 0, 1) := by decide +kernel
theorem dX5_read_50 : decode cX5_read 50 = .ok (.getfield 18, 3) := by decide +kernel
theorem dX5_read_53 : decode cX5_read 53 = .ok (.dup, 1) := by decide +kernel
theorem dX5_read_54 : decode cX5_read 54 = .ok (.getfield 26, 3) := by decide +kernel
theorem dX5_read_57 : decode cX5_read 57 = .ok (.iconst 1, 1) := by decide +kernel
theorem dX5_read_58 : decode cX5_read 58 = .ok (.iadd, 1) := by decide +kernel
theorem dX5_read_59 : decode cX5_read 59 = .ok (.putfield 26, 3) := by decide +kernel
theorem dX5_read_62 : decode cX5_read 62 = .ok (.aload_n 0, 1) := by decide +kernel
theorem dX5_read_63 : decode cX5_read 63 = .ok (.getfield 9, 3) := by decide +kernel
theorem dX5_read_66 : decode cX5_read 66 = .ok (.iconst 3, 1) := by decide +kernel
theorem dX5_read_67 : decode cX5_read 67 = .ok (.invokevirtual 39, 3) := by decide +kernel
theorem dX5_read_70 : decode cX5_read 70 = .ok (.ifCond .ne (-42), 3) := by decide +kernel
theorem dX5_read_73 : decode cX5_read 73 = .ok (.aload_n 0, 1) := by decide +kernel
theorem dX5_read_74 : decode cX5_read 74 = .ok (.getfield 9, 3) := by decide +kernel
theorem dX5_read_77 : decode cX5_read 77 = .ok (.invokevirtual 29, 3) := by decide +kernel
theorem dX5_read_80 : decode cX5_read 80 = .ok (.ifCond .ne 7, 3) := by decide +kernel
theorem dX5_read_83 : decode cX5_read 83 = .ok (.iconst 1, 1) := by decide +kernel
theorem dX5_read_84 : decode cX5_read 84 = .ok (.goto 4, 3) := by decide +kernel
theorem dX5_read_87 : decode cX5_read 87 = .ok (.iconst 0, 1) := by decide +kernel
theorem dX5_read_88 : decode cX5_read 88 = .ok (.ireturn, 1) := by decide +kernel
def lp_X5_read_28 (k73 : Mem → Option (Int32 × Mem)) : Nat → Mem → Option (Int32 × Mem)
  | 0, _ => none
  | n + 1, μ5 => if 12 ≤ (μ5 16 7 4) then (some (0, μ5)) else ((f_X5_readLine μ5).bind fun (q6 : Int32 × Mem) => if q6.1 = 0 then (some (0, q6.2)) else (nm (upm q6.2 16 7 4 ((q6.2 16 7 4) + 1)) fun (μ7 : Mem) => (f_X8_take μ7 3).bind fun (q8 : Int32 × Mem) => if q8.1 = 0 then (k73 q8.2) else (lp_X5_read_28 k73 n q8.2)))
def f_X5_read (μ : Mem) : Option (Int32 × Mem) := nm (upm μ 16 7 2 0) fun (μ1 : Mem) => nm (upm μ1 16 7 4 0) fun (μ2 : Mem) => (f_X8_kind μ2).bind fun (q3 : Int32) => if q3 = 0 then (some (1, μ2)) else (lp_X5_read_28 (fun (μ4 : Mem) => (f_X8_kind μ4).bind fun (q9 : Int32) => if q9 = 0 then (some (1, μ4)) else (some (0, μ4))) 4096 μ2)
set_option maxHeartbeats 4000000 in
set_option maxRecDepth 100000 in
theorem c_X5_read (G : GG) (l : Launch) (μ : Mem) : CI G l yX5_read (.code yX5_read cX5_read 1 (some .boolean)) 56 [.ref (gad G 0 8)] μ (f_X5_read μ) := by
  refine CI.of (own := "SaturdayKeep$LawReader") (L0 := [some (.ref (gad G 0 8))]) rfl rfl rfl (Nat.le_of_ble_eq_true rfl) (fun C hl hC => ?_)
  subst hl
  delta f_X5_read
  refine aw_aload_n (pc := 0) (i := 0) hC dX5_read_0 rfl rfl ?_
  refine aw_get (pc := 1) hC inX5 (v0 (j := 8) (by decide)) rfl rfl 1 (by decide) kw121 rfl rfl dX5_read_1 ?_
  refine aw_iconst (pc := 4) (v := 0) hC dX5_read_4 ic0 ?_
  refine aw_putIN (pc := 5) hC inX4 (vL (h := 15) (j := 7) (by decide) (by decide)) rfl rfl 2 (by decide) kw104 rfl tyX4 tyX4_ok nmX4 rfl rfl (Nat.le_of_ble_eq_true rfl) rfl dX5_read_5 (fun μ1 => ?_)
  refine aw_aload_n (pc := 8) (i := 0) hC dX5_read_8 rfl rfl ?_
  refine aw_get (pc := 9) hC inX5 (v0 (j := 8) (by decide)) rfl rfl 1 (by decide) kw121 rfl rfl dX5_read_9 ?_
  refine aw_iconst (pc := 12) (v := 0) hC dX5_read_12 ic0 ?_
  refine aw_putIN (pc := 13) hC inX4 (vL (h := 15) (j := 7) (by decide) (by decide)) rfl rfl 4 (by decide) kw107 rfl tyX4 tyX4_ok nmX4 rfl rfl (Nat.le_of_ble_eq_true rfl) rfl dX5_read_13 (fun μ2 => ?_)
  refine aw_aload_n (pc := 16) (i := 0) hC dX5_read_16 rfl rfl ?_
  refine aw_get (pc := 17) hC inX5 (v0 (j := 8) (by decide)) rfl rfl 0 (by decide) kw120 rfl rfl dX5_read_17 ?_
  refine aw_callVR (pc := 20) (As := []) hC mb_X8_kind kw841 (by decide) (c_X8_kind G C.2.1   μ2 ) (v0 (j := 3) (by decide)) rfl rfl rfl (Nat.le_of_ble_eq_true rfl) dX5_read_20 (fun q3 => ?_)
  refine aw_if_ne (pc := 23) (tgt := 28) hC dX5_read_23 (by decide) (fun _ => ?_) (fun _ => ?_)
  · skip
    refine aw_iconst (pc := 26) (v := 1) hC dX5_read_26 ic1 ?_
    exact aw_zret1 hC dX5_read_27
  · skip
    have hL28 : ∀ (k73 : Mem → Option (Int32 × Mem)) (hk73 : ∀ (μ4 : Mem), AW G C (qI G C 0 0) 0 0 1 μ4 73 [some (.ref (gad G 0 8))] [] (k73 μ4)) (n : Nat) (μ5 : Mem), AW G C (qI G C 0 0) 0 0 1 μ5 28 [some (.ref (gad G 0 8))] [] (lp_X5_read_28 k73 n μ5) := by
      intro k73 hk73 n
      induction n with
      | zero => intro μ5; exact aw_none
      | succ n ih =>
        intro μ5
        rw [lp_X5_read_28]
        refine aw_aload_n (pc := 28) (i := 0) hC dX5_read_28 rfl rfl ?_
        refine aw_get (pc := 29) hC inX5 (v0 (j := 8) (by decide)) rfl rfl 1 (by decide) kw121 rfl rfl dX5_read_29 ?_
        refine aw_get (pc := 32) hC inX4 (vL (h := 15) (j := 7) (by decide) (by decide)) rfl rfl 4 (by decide) kw107 rfl rfl dX5_read_32 ?_
        refine aw_bipush (pc := 35) (v := 12) hC dX5_read_35 bc12 ?_
        refine aw_icmp_ge (pc := 37) (tgt := 47) hC dX5_read_37 (by decide) (fun _ => ?_) (fun _ => ?_)
        · skip
          refine aw_iconst (pc := 47) (v := 0) hC dX5_read_47 ic0 ?_
          exact aw_zret0 hC dX5_read_48
        · skip
          refine aw_aload_n (pc := 40) (i := 0) hC dX5_read_40 rfl rfl ?_
          refine aw_callVI (pc := 41) (As := []) hC mb_X5_readLine kw842 (by decide) (c_X5_readLine G C.2.1   μ5 ) (v0 (j := 8) (by decide)) rfl rfl rfl (Nat.le_of_ble_eq_true rfl) dX5_read_41 (fun q6 => ?_)
          refine aw_if_ne (pc := 44) (tgt := 49) hC dX5_read_44 (by decide) (fun _ => ?_) (fun _ => ?_)
          · skip
            refine aw_iconst (pc := 47) (v := 0) hC dX5_read_47 ic0 ?_
            exact aw_zret0 hC dX5_read_48
          · skip
            refine aw_aload_n (pc := 49) (i := 0) hC dX5_read_49 rfl rfl ?_
            refine aw_get (pc := 50) hC inX5 (v0 (j := 8) (by decide)) rfl rfl 1 (by decide) kw121 rfl rfl dX5_read_50 ?_
            refine aw_dup (pc := 53) hC dX5_read_53 rfl ?_
            refine aw_get (pc := 54) hC inX4 (vL (h := 15) (j := 7) (by decide) (by decide)) rfl rfl 4 (by decide) kw107 rfl rfl dX5_read_54 ?_
            refine aw_iconst (pc := 57) (v := 1) hC dX5_read_57 ic1 ?_
            refine aw_iadd (pc := 58) hC dX5_read_58 ?_
            refine aw_putIN (pc := 59) hC inX4 (vL (h := 15) (j := 7) (by decide) (by decide)) rfl rfl 4 (by decide) kw107 rfl tyX4 tyX4_ok nmX4 rfl rfl (Nat.le_of_ble_eq_true rfl) rfl dX5_read_59 (fun μ7 => ?_)
            refine aw_aload_n (pc := 62) (i := 0) hC dX5_read_62 rfl rfl ?_
            refine aw_get (pc := 63) hC inX5 (v0 (j := 8) (by decide)) rfl rfl 0 (by decide) kw120 rfl rfl dX5_read_63 ?_
            refine aw_iconst (pc := 66) (v := 3) hC dX5_read_66 ic3 ?_
            refine aw_callVI (pc := 67) (As := [.int 3]) hC mb_X8_take kw846 (by decide) (c_X8_take G C.2.1   μ7 3) (v0 (j := 3) (by decide)) rfl rfl rfl (Nat.le_of_ble_eq_true rfl) dX5_read_67 (fun q8 => ?_)
            refine aw_if_ne (pc := 70) (tgt := 28) hC dX5_read_70 (by decide) (fun _ => ?_) (fun _ => ?_)
            · skip
              exact hk73 q8.2
            · skip
              exact ih q8.2
    refine hL28 (fun (μ4 : Mem) => (f_X8_kind μ4).bind fun (q9 : Int32) => if q9 = 0 then (some (1, μ4)) else (some (0, μ4))) (fun μ4 => ?_) 4096 μ2
    · skip
      refine aw_aload_n (pc := 73) (i := 0) hC dX5_read_73 rfl rfl ?_
      refine aw_get (pc := 74) hC inX5 (v0 (j := 8) (by decide)) rfl rfl 0 (by decide) kw120 rfl rfl dX5_read_74 ?_
      refine aw_callVR (pc := 77) (As := []) hC mb_X8_kind kw841 (by decide) (c_X8_kind G C.2.1   μ4 ) (v0 (j := 3) (by decide)) rfl rfl rfl (Nat.le_of_ble_eq_true rfl) dX5_read_77 (fun q9 => ?_)
      refine aw_if_ne (pc := 80) (tgt := 87) hC dX5_read_80 (by decide) (fun _ => ?_) (fun _ => ?_)
      · skip
        refine aw_iconst (pc := 83) (v := 1) hC dX5_read_83 ic1 ?_
        refine aw_goto (pc := 84) (tgt := 88) hC dX5_read_84 (by decide) ?_
        exact aw_zret1 hC dX5_read_88
      · skip
        refine aw_iconst (pc := 87) (v := 0) hC dX5_read_87 ic0 ?_
        exact aw_zret0 hC dX5_read_88
