theorem dX10_alike_0 : decode cX10_alike 0 = .ok (.aload_n 0, 1) := by decide +kernel
theorem dX10_alike_1 : decode cX10_alike 1 = .ok (.iconst 0, 1) := by decide +kernel
theorem dX10_alike_2 : decode cX10_alike 2 = .ok (.putfield 42, 3) := by decide +kernel
theorem dX10_alike_5 : decode cX10_alike 5 = .ok (.iconst 0, 1) := by decide +kernel
theorem dX10_alike_6 : decode cX10_alike 6 = .ok (.istore_n 1, 1) := by decide +kernel
theorem dX10_alike_7 : decode cX10_alike 7 = .ok (.iconst 0, 1) := by decide +kernel
theorem dX10_alike_8 : decode cX10_alike 8 = .ok (.istore_n 2, 1) := by decide +kernel
theorem dX10_alike_9 : decode cX10_alike 9 = .ok (.iload_n 2, 1) := by decide +kernel
theorem dX10_alike_10 : decode cX10_alike 10 = .ok (.aload_n 0, 1) := by decide +kernel
theorem dX10_alike_11 : decode cX10_alike 11 = .ok (.getfield 7, 3) := by decide +kernel
theorem dX10_alike_14 : decode cX10_alike 14 = .ok (.iconst 3, 1) := by decide +kernel
theorem dX10_alike_15 : decode cX10_alike 15 = .ok (.iaload, 1) := by decide +kernel
theorem dX10_alike_16 : decode cX10_alike 16 = .ok (.if_icmp .ge 67, 3) := by decide +kernel
theorem dX10_alike_19 : decode cX10_alike 19 = .ok (.iload_n 2, 1) := by decide +kernel
theorem dX10_alike_20 : decode cX10_alike 20 = .ok (.iconst 1, 1) := by decide +kernel
theorem dX10_alike_21 : decode cX10_alike 21 = .ok (.iadd, 1) := by decide +kernel
theorem dX10_alike_22 : decode cX10_alike 22 = .ok (.istore_n 3, 1) := by decide +kernel
theorem dX10_alike_23 : decode cX10_alike 23 = .ok (.iload_n 3, 1) := by decide +kernel
theorem dX10_alike_24 : decode cX10_alike 24 = .ok (.aload_n 0, 1) := by decide +kernel
theorem dX10_alike_25 : decode cX10_alike 25 = .ok (.getfield 7, 3) := by decide +kernel
theorem dX10_alike_28 : decode cX10_alike 28 = .ok (.iconst 3, 1) := by decide +kernel
theorem dX10_alike_29 : decode cX10_alike 29 = .ok (.iaload, 1) := by decide +kernel
theorem dX10_alike_30 : decode cX10_alike 30 = .ok (.if_icmp .ge 47, 3) := by decide +kernel
theorem dX10_alike_33 : decode cX10_alike 33 = .ok (.iload_n 1, 1) := by decide +kernel
theorem dX10_alike_34 : decode cX10_alike 34 = .ok (.aload_n 0, 1) := by decide +kernel
theorem dX10_alike_35 : decode cX10_alike 35 = .ok (.iload_n 2, 1) := by decide +kernel
theorem dX10_alike_36 : decode cX10_alike 36 = .ok (.iconst 1, 1) := by decide +kernel
theorem dX10_alike_37 : decode cX10_alike 37 = .ok (.invokevirtual 49, 3) := by decide +kernel
theorem dX10_alike_40 : decode cX10_alike 40 = .ok (.aload_n 0, 1) := by decide +kernel
theorem dX10_alike_41 : decode cX10_alike 41 = .ok (.iload_n 3, 1) := by decide +kernel
theorem dX10_alike_42 : decode cX10_alike 42 = .ok (.iconst 1, 1) := by decide +kernel
theorem dX10_alike_43 : decode cX10_alike 43 = .ok (.invokevirtual 49, 3) := by decide +kernel
theorem dX10_alike_46 : decode cX10_alike 46 = .ok (.if_icmp .ne 22, 3) := by decide +kernel
theorem dX10_alike_49 : decode cX10_alike 49 = .ok (.aload_n 0, 1) := by decide +kernel
theorem dX10_alike_50 : decode cX10_alike 50 = .ok (.iload_n 2, 1) := by decide +kernel
theorem dX10_alike_51 : decode cX10_alike 51 = .ok (.iconst 0, 1) := by decide +kernel
theorem dX10_alike_52 : decode cX10_alike 52 = .ok (.invokevirtual 49, 3) := by decide +kernel
theorem dX10_alike_55 : decode cX10_alike 55 = .ok (.aload_n 0, 1) := by decide +kernel
theorem dX10_alike_56 : decode cX10_alike 56 = .ok (.iload_n 3, 1) := by decide +kernel
theorem dX10_alike_57 : decode cX10_alike 57 = .ok (.iconst 0, 1) := by decide +kernel
theorem dX10_alike_58 : decode cX10_alike 58 = .ok (.invokevirtual 49, 3) := by decide +kernel
theorem dX10_alike_61 : decode cX10_alike 61 = .ok (.if_icmp .ne 7, 3) := by decide +kernel
theorem dX10_alike_64 : decode cX10_alike 64 = .ok (.iconst 1, 1) := by decide +kernel
theorem dX10_alike_65 : decode cX10_alike 65 = .ok (.goto 4, 3) := by decide +kernel
theorem dX10_alike_68 : decode cX10_alike 68 = .ok (.iconst 0, 1) := by decide +kernel
theorem dX10_alike_69 : decode cX10_alike 69 = .ok (.iadd, 1) := by decide +kernel
theorem dX10_alike_70 : decode cX10_alike 70 = .ok (.istore_n 1, 1) := by decide +kernel
theorem dX10_alike_71 : decode cX10_alike 71 = .ok (.iinc 3 1, 3) := by decide +kernel
theorem dX10_alike_74 : decode cX10_alike 74 = .ok (.goto (-51), 3) := by decide +kernel
theorem dX10_alike_77 : decode cX10_alike 77 = .ok (.iinc 2 1, 3) := by decide +kernel
theorem dX10_alike_80 : decode cX10_alike 80 = .ok (.goto (-71), 3) := by decide +kernel
theorem dX10_alike_83 : decode cX10_alike 83 = .ok (.iload_n 1, 1) := by decide +kernel
theorem dX10_alike_84 : decode cX10_alike 84 = .ok (.ireturn, 1) := by decide +kernel
def lp_X10_alike_23 (μ1 : Mem) (x3 : Int32) (k77 : Int32 → Option (Int32 × Mem)) : Nat → Int32 → Int32 → Option (Int32 × Mem)
  | 0, _, _ => none
  | n + 1, x5, x6 => ix 3 704 (if (μ1 0 13 (Int32.toNatClampNeg 3)) ≤ x6 then (k77 x5) else ((f_X10_of μ1 x3 1).bind fun (q7 : Int32) => (f_X10_of μ1 x6 1).bind fun (q8 : Int32) => if q7 = q8 then ((f_X10_of μ1 x3 0).bind fun (q9 : Int32) => (f_X10_of μ1 x6 0).bind fun (q10 : Int32) => if q9 = q10 then (lp_X10_alike_23 μ1 x3 k77 n (x5 + 1) (x6 + 1)) else (lp_X10_alike_23 μ1 x3 k77 n (x5 + 0) (x6 + 1))) else (lp_X10_alike_23 μ1 x3 k77 n (x5 + 0) (x6 + 1))))
def lp_X10_alike_9 (μ1 : Mem) : Nat → Int32 → Int32 → Option (Int32 × Mem)
  | 0, _, _ => none
  | n + 1, x2, x3 => ix 3 704 (if (μ1 0 13 (Int32.toNatClampNeg 3)) ≤ x3 then (some (x2, μ1)) else (lp_X10_alike_23 μ1 x3 (fun (x4 : Int32) => lp_X10_alike_9 μ1 n x4 (x3 + 1)) 4096 x2 (x3 + 1)))
def f_X10_alike (μ : Mem) : Option (Int32 × Mem) := nm (upm μ 0 12 0 0) fun (μ1 : Mem) => lp_X10_alike_9 μ1 4096 0 0
set_option maxHeartbeats 4000000 in
set_option maxRecDepth 100000 in
theorem c_X10_alike (G : GG) (l : Launch) (μ : Mem) : CI G l yX10_alike (.code yX10_alike cX10_alike 4 (some .int)) 2 [.ref (gad G 0 12)] μ (f_X10_alike μ) := by
  refine CI.of (own := "SaturdayKeepModel") (L0 := [some (.ref (gad G 0 12)), none, none, none]) rfl rfl rfl (Nat.le_of_ble_eq_true rfl) (fun C hl hC => ?_)
  subst hl
  delta f_X10_alike
  refine aw_aload_n (pc := 0) (i := 0) hC dX10_alike_0 rfl rfl ?_
  refine aw_iconst (pc := 1) (v := 0) hC dX10_alike_1 ic0 ?_
  refine aw_putIN (pc := 2) hC inX10 (v0 (j := 12) (by decide)) rfl rfl 0 (by decide) kw1314 rfl tyX10 tyX10_ok nmX10 rfl rfl (Nat.le_of_ble_eq_true rfl) rfl dX10_alike_2 (fun μ1 => ?_)
  refine aw_iconst (pc := 5) (v := 0) hC dX10_alike_5 ic0 ?_
  refine aw_istore_n (pc := 6) (i := 1) hC dX10_alike_6 rfl rfl (by decide) ?_
  refine aw_iconst (pc := 7) (v := 0) hC dX10_alike_7 ic0 ?_
  refine aw_istore_n (pc := 8) (i := 2) hC dX10_alike_8 rfl rfl (by decide) ?_
  have hL9 : ∀ (n : Nat) (x2 : Int32) (x3 : Int32), AW G C (qI G C 0 0) 0 0 4 μ1 9 [some (.ref (gad G 0 12)), some (.int x2), some (.int x3), none] [] (lp_X10_alike_9 μ1 n x2 x3) := by
    intro n
    induction n with
    | zero => intro x2 x3; exact aw_none
    | succ n ih =>
      intro x2 x3
      rw [lp_X10_alike_9]
      refine aw_iload_n (pc := 9) (i := 2) hC dX10_alike_9 rfl rfl ?_
      refine aw_aload_n (pc := 10) (i := 0) hC dX10_alike_10 rfl rfl ?_
      refine aw_get (pc := 11) hC inX10 (v0 (j := 12) (by decide)) rfl rfl 1 (by decide) kw1315 rfl rfl dX10_alike_11 ?_
      refine aw_iconst (pc := 14) (v := 3) hC dX10_alike_14 ic3 ?_
      refine aw_iaload (pc := 15) hC (v0 (j := 13) (by decide)) rfl dX10_alike_15 ?_
      refine aw_icmp_ge (pc := 16) (tgt := 83) hC dX10_alike_16 (by decide) (fun _ => ?_) (fun _ => ?_)
      · skip
        refine aw_iload_n (pc := 83) (i := 1) hC dX10_alike_83 rfl rfl ?_
        exact aw_iret hC dX10_alike_84
      · skip
        refine aw_iload_n (pc := 19) (i := 2) hC dX10_alike_19 rfl rfl ?_
        refine aw_iconst (pc := 20) (v := 1) hC dX10_alike_20 ic1 ?_
        refine aw_iadd (pc := 21) hC dX10_alike_21 ?_
        refine aw_istore_n (pc := 22) (i := 3) hC dX10_alike_22 rfl rfl (by decide) ?_
        have hL23 : ∀ (k77 : Int32 → Option (Int32 × Mem)) (hk77 : ∀ (x4 : Int32), AW G C (qI G C 0 0) 0 0 4 μ1 77 [some (.ref (gad G 0 12)), some (.int x4), some (.int x3), none] [] (k77 x4)) (n : Nat) (x5 : Int32) (x6 : Int32), AW G C (qI G C 0 0) 0 0 4 μ1 23 [some (.ref (gad G 0 12)), some (.int x5), some (.int x3), some (.int x6)] [] (lp_X10_alike_23 μ1 x3 k77 n x5 x6) := by
          intro k77 hk77 n
          induction n with
          | zero => intro x5 x6; exact aw_none
          | succ n ih =>
            intro x5 x6
            rw [lp_X10_alike_23]
            refine aw_iload_n (pc := 23) (i := 3) hC dX10_alike_23 rfl rfl ?_
            refine aw_aload_n (pc := 24) (i := 0) hC dX10_alike_24 rfl rfl ?_
            refine aw_get (pc := 25) hC inX10 (v0 (j := 12) (by decide)) rfl rfl 1 (by decide) kw1315 rfl rfl dX10_alike_25 ?_
            refine aw_iconst (pc := 28) (v := 3) hC dX10_alike_28 ic3 ?_
            refine aw_iaload (pc := 29) hC (v0 (j := 13) (by decide)) rfl dX10_alike_29 ?_
            refine aw_icmp_ge (pc := 30) (tgt := 77) hC dX10_alike_30 (by decide) (fun _ => ?_) (fun _ => ?_)
            · skip
              exact aw_drop [3] (hk77 x5)
            · skip
              refine aw_iload_n (pc := 33) (i := 1) hC dX10_alike_33 rfl rfl ?_
              refine aw_aload_n (pc := 34) (i := 0) hC dX10_alike_34 rfl rfl ?_
              refine aw_iload_n (pc := 35) (i := 2) hC dX10_alike_35 rfl rfl ?_
              refine aw_iconst (pc := 36) (v := 1) hC dX10_alike_36 ic1 ?_
              refine aw_callVR (pc := 37) (As := [.int x3, .int 1]) hC mb_X10_of kw1539 (by decide) (c_X10_of G C.2.1   μ1 x3 1) (v0 (j := 12) (by decide)) rfl rfl rfl (Nat.le_of_ble_eq_true rfl) dX10_alike_37 (fun q7 => ?_)
              refine aw_aload_n (pc := 40) (i := 0) hC dX10_alike_40 rfl rfl ?_
              refine aw_iload_n (pc := 41) (i := 3) hC dX10_alike_41 rfl rfl ?_
              refine aw_iconst (pc := 42) (v := 1) hC dX10_alike_42 ic1 ?_
              refine aw_callVR (pc := 43) (As := [.int x6, .int 1]) hC mb_X10_of kw1539 (by decide) (c_X10_of G C.2.1   μ1 x6 1) (v0 (j := 12) (by decide)) rfl rfl rfl (Nat.le_of_ble_eq_true rfl) dX10_alike_43 (fun q8 => ?_)
              refine aw_icmp_ne (pc := 46) (tgt := 68) hC dX10_alike_46 (by decide) (fun _ => ?_) (fun _ => ?_)
              · skip
                refine aw_aload_n (pc := 49) (i := 0) hC dX10_alike_49 rfl rfl ?_
                refine aw_iload_n (pc := 50) (i := 2) hC dX10_alike_50 rfl rfl ?_
                refine aw_iconst (pc := 51) (v := 0) hC dX10_alike_51 ic0 ?_
                refine aw_callVR (pc := 52) (As := [.int x3, .int 0]) hC mb_X10_of kw1539 (by decide) (c_X10_of G C.2.1   μ1 x3 0) (v0 (j := 12) (by decide)) rfl rfl rfl (Nat.le_of_ble_eq_true rfl) dX10_alike_52 (fun q9 => ?_)
                refine aw_aload_n (pc := 55) (i := 0) hC dX10_alike_55 rfl rfl ?_
                refine aw_iload_n (pc := 56) (i := 3) hC dX10_alike_56 rfl rfl ?_
                refine aw_iconst (pc := 57) (v := 0) hC dX10_alike_57 ic0 ?_
                refine aw_callVR (pc := 58) (As := [.int x6, .int 0]) hC mb_X10_of kw1539 (by decide) (c_X10_of G C.2.1   μ1 x6 0) (v0 (j := 12) (by decide)) rfl rfl rfl (Nat.le_of_ble_eq_true rfl) dX10_alike_58 (fun q10 => ?_)
                refine aw_icmp_ne (pc := 61) (tgt := 68) hC dX10_alike_61 (by decide) (fun _ => ?_) (fun _ => ?_)
                · skip
                  refine aw_iconst (pc := 64) (v := 1) hC dX10_alike_64 ic1 ?_
                  refine aw_goto (pc := 65) (tgt := 69) hC dX10_alike_65 (by decide) ?_
                  refine aw_iadd (pc := 69) hC dX10_alike_69 ?_
                  refine aw_istore_n (pc := 70) (i := 1) hC dX10_alike_70 rfl rfl (by decide) ?_
                  refine aw_iinc (pc := 71) (v := x6 + 1) hC dX10_alike_71 rfl (congrArg (HAdd.hAdd _) ic1) rfl (by decide) ?_
                  refine aw_goto (pc := 74) (tgt := 23) hC dX10_alike_74 (by decide) ?_
                  exact ih (x5 + 1) (x6 + 1)
                · skip
                  refine aw_iconst (pc := 68) (v := 0) hC dX10_alike_68 ic0 ?_
                  refine aw_iadd (pc := 69) hC dX10_alike_69 ?_
                  refine aw_istore_n (pc := 70) (i := 1) hC dX10_alike_70 rfl rfl (by decide) ?_
                  refine aw_iinc (pc := 71) (v := x6 + 1) hC dX10_alike_71 rfl (congrArg (HAdd.hAdd _) ic1) rfl (by decide) ?_
                  refine aw_goto (pc := 74) (tgt := 23) hC dX10_alike_74 (by decide) ?_
                  exact ih (x5 + 0) (x6 + 1)
              · skip
                refine aw_iconst (pc := 68) (v := 0) hC dX10_alike_68 ic0 ?_
                refine aw_iadd (pc := 69) hC dX10_alike_69 ?_
                refine aw_istore_n (pc := 70) (i := 1) hC dX10_alike_70 rfl rfl (by decide) ?_
                refine aw_iinc (pc := 71) (v := x6 + 1) hC dX10_alike_71 rfl (congrArg (HAdd.hAdd _) ic1) rfl (by decide) ?_
                refine aw_goto (pc := 74) (tgt := 23) hC dX10_alike_74 (by decide) ?_
                exact ih (x5 + 0) (x6 + 1)
        refine hL23 (fun (x4 : Int32) => lp_X10_alike_9 μ1 n x4 (x3 + 1)) (fun x4 => ?_) 4096 x2 (x3 + 1)
        · skip
          refine aw_iinc (pc := 77) (v := x3 + 1) hC dX10_alike_77 rfl (congrArg (HAdd.hAdd _) ic1) rfl (by decide) ?_
          refine aw_goto (pc := 80) (tgt := 9) hC dX10_alike_80 (by decide) ?_
          exact ih x4 (x3 + 1)
  exact hL9 4096 0 0
theorem dX10_line_0 : decode cX10_line 0 = .ok (.aload_n 0, 1) := by decide +kernel
theorem dX10_line_1 : decode cX10_line 1 = .ok (.iload_n 1, 1) := by decide +kernel
theorem dX10_line_2 : decode cX10_line 2 = .ok (.invokestatic 273, 3) := by decide +kernel
theorem dX10_line_5 : decode cX10_line 5 = .ok (.ifCond .eq 10, 3) := by decide +kernel
theorem dX10_line_8 : decode cX10_line 8 = .ok (.iload_n 2, 1) := by decide +kernel
theorem dX10_line_9 : decode cX10_line 9 = .ok (.invokestatic 273, 3) := by decide +kernel
theorem dX10_line_12 : decode cX10_line 12 = .ok (.ifCond .ne 7, 3) := by decide +kernel
theorem dX10_line_15 : decode cX10_line 15 = .ok (.iconst 1, 1) := by decide +kernel
theorem dX10_line_16 : decode cX10_line 16 = .ok (.goto 4, 3) := by decide +kernel
theorem dX10_line_19 : decode cX10_line 19 = .ok (.iconst 0, 1) := by decide +kernel
theorem dX10_line_20 : decode cX10_line 20 = .ok (.putfield 42, 3) := by decide +kernel
theorem dX10_line_23 : decode cX10_line 23 = .ok (.aload_n 0, 1) := by decide +kernel
theorem dX10_line_24 : decode cX10_line 24 = .ok (.getfield 42, 3) := by decide +kernel
theorem dX10_line_27 : decode cX10_line 27 = .ok (.ifCond .le 5, 3) := by decide +kernel
theorem dX10_line_30 : decode cX10_line 30 = .ok (.iconst 0, 1) := by decide +kernel
theorem dX10_line_31 : decode cX10_line 31 = .ok (.ireturn, 1) := by decide +kernel
theorem dX10_line_32 : decode cX10_line 32 = .ok (.iconst 1, 1) := by decide +kernel
theorem dX10_line_33 : decode cX10_line 33 = .ok (.iload_n 1, 1) := by decide +kernel
theorem dX10_line_34 : decode cX10_line 34 = .ok (.ishl, 1) := by decide +kernel
theorem dX10_line_35 : decode cX10_line 35 = .ok (.istore_n 3, 1) := by decide +kernel
theorem dX10_line_36 : decode cX10_line 36 = .ok (.iconst 0, 1) := by decide +kernel
theorem dX10_line_37 : decode cX10_line 37 = .ok (.istore 4, 2) := by decide +kernel
theorem dX10_line_39 : decode cX10_line 39 = .ok (.iload 4, 2) := by decide +kernel
theorem dX10_line_41 : decode cX10_line 41 = .ok (.bipush 8, 2) := by decide +kernel
theorem dX10_line_43 : decode cX10_line 43 = .ok (.if_icmp .ge 62, 3) := by decide +kernel
theorem dX10_line_46 : decode cX10_line 46 = .ok (.iload_n 3, 1) := by decide +kernel
theorem dX10_line_47 : decode cX10_line 47 = .ok (.iload_n 2, 1) := by decide +kernel
theorem dX10_line_48 : decode cX10_line 48 = .ok (.invokestatic 53, 3) := by decide +kernel
theorem dX10_line_51 : decode cX10_line 51 = .ok (.ifCond .eq 6, 3) := by decide +kernel
theorem dX10_line_54 : decode cX10_line 54 = .ok (.iload 4, 2) := by decide +kernel
theorem dX10_line_56 : decode cX10_line 56 = .ok (.ireturn, 1) := by decide +kernel
theorem dX10_line_57 : decode cX10_line 57 = .ok (.iload_n 3, 1) := by decide +kernel
theorem dX10_line_58 : decode cX10_line 58 = .ok (.istore 5, 2) := by decide +kernel
theorem dX10_line_60 : decode cX10_line 60 = .ok (.iconst 0, 1) := by decide +kernel
theorem dX10_line_61 : decode cX10_line 61 = .ok (.istore 6, 2) := by decide +kernel
theorem dX10_line_63 : decode cX10_line 63 = .ok (.iload 6, 2) := by decide +kernel
theorem dX10_line_65 : decode cX10_line 65 = .ok (.bipush 8, 2) := by decide +kernel
theorem dX10_line_67 : decode cX10_line 67 = .ok (.if_icmp .ge 32, 3) := by decide +kernel
theorem dX10_line_70 : decode cX10_line 70 = .ok (.iload 5, 2) := by decide +kernel
theorem dX10_line_72 : decode cX10_line 72 = .ok (.iload 6, 2) := by decide +kernel
theorem dX10_line_74 : decode cX10_line 74 = .ok (.invokestatic 53, 3) := by decide +kernel
theorem dX10_line_77 : decode cX10_line 77 = .ok (.ifCond .eq 16, 3) := by decide +kernel
theorem dX10_line_80 : decode cX10_line 80 = .ok (.iload_n 3, 1) := by decide +kernel
theorem dX10_line_81 : decode cX10_line 81 = .ok (.aload_n 0, 1) := by decide +kernel
theorem dX10_line_82 : decode cX10_line 82 = .ok (.getfield 7, 3) := by decide +kernel
theorem dX10_line_85 : decode cX10_line 85 = .ok (.bipush 16, 2) := by decide +kernel
theorem dX10_line_87 : decode cX10_line 87 = .ok (.iload 6, 2) := by decide +kernel
theorem dX10_line_89 : decode cX10_line 89 = .ok (.iadd, 1) := by decide +kernel
theorem dX10_line_90 : decode cX10_line 90 = .ok (.iaload, 1) := by decide +kernel
theorem dX10_line_91 : decode cX10_line 91 = .ok (.ior, 1) := by decide +kernel
theorem dX10_line_92 : decode cX10_line 92 = .ok (.istore_n 3, 1) := by decide +kernel
theorem dX10_line_93 : decode cX10_line 93 = .ok (.iinc 6 1, 3) := by decide +kernel
theorem dX10_line_96 : decode cX10_line 96 = .ok (.goto (-33), 3) := by decide +kernel
theorem dX10_line_99 : decode cX10_line 99 = .ok (.iinc 4 1, 3) := by decide +kernel
theorem dX10_line_102 : decode cX10_line 102 = .ok (.goto (-63), 3) := by decide +kernel
theorem dX10_line_105 : decode cX10_line 105 = .ok (.iconst (-1), 1) := by decide +kernel
theorem dX10_line_106 : decode cX10_line 106 = .ok (.ireturn, 1) := by decide +kernel
def lp_X10_line_63 (μ3 : Mem) (x4 : Int32) (k99 : Int32 → Option (Int32 × Mem)) : Nat → Int32 → Int32 → Option (Int32 × Mem)
  | 0, _, _ => none
  | n + 1, x8, x9 => if 8 ≤ x9 then (k99 x8) else ((f_X10_isOf x4 x9).bind fun (q10 : Int32) => if q10 = 0 then (lp_X10_line_63 μ3 x4 k99 n x8 (x9 + 1)) else (ix (16 + x9) 704 (nm (x8 ||| (μ3 0 13 (16 + x9).toNatClampNeg)) fun (x11 : Int32) => lp_X10_line_63 μ3 x4 k99 n x11 (x9 + 1))))
def lp_X10_line_39 (a2 : Int32) (μ3 : Mem) : Nat → Int32 → Int32 → Option (Int32 × Mem)
  | 0, _, _ => none
  | n + 1, x4, x5 => if 8 ≤ x5 then (some ((-1), μ3)) else ((f_X10_isOf x4 a2).bind fun (q6 : Int32) => if q6 = 0 then (lp_X10_line_63 μ3 x4 (fun (x7 : Int32) => lp_X10_line_39 a2 μ3 n x7 (x5 + 1)) 4096 x4 0) else (some (x5, μ3)))
def f_X10_line (μ : Mem) (a1 : Int32) (a2 : Int32) : Option (Int32 × Mem) := (f_X10_isRoom a1).bind fun (q1 : Int32) => nm (fun (x2 : Int32) => nm (upm μ 0 12 0 x2) fun (μ3 : Mem) => if (μ3 0 12 0) ≤ 0 then (lp_X10_line_39 a2 μ3 4096 (jshl 1 a1) 0) else (some (0, μ3))) fun (J20 : Int32 → Option (Int32 × Mem)) => nm (J20 1) fun (J15 : Option (Int32 × Mem)) => if q1 = 0 then (J15) else ((f_X10_isRoom a2).bind fun (q12 : Int32) => if q12 = 0 then (J15) else (J20 0))
set_option maxHeartbeats 4000000 in
set_option maxRecDepth 100000 in
theorem c_X10_line (G : GG) (l : Launch) (μ : Mem) (a1 : Int32) (a2 : Int32) : CI G l yX10_line (.code yX10_line cX10_line 7 (some .int)) 3 [.ref (gad G 0 12), .int a1, .int a2] μ (f_X10_line μ a1 a2) := by
  refine CI.of (own := "SaturdayKeepModel") (L0 := [some (.ref (gad G 0 12)), some (.int a1), some (.int a2), none, none, none, none]) rfl rfl rfl (Nat.le_of_ble_eq_true rfl) (fun C hl hC => ?_)
  subst hl
  delta f_X10_line
  refine aw_aload_n (pc := 0) (i := 0) hC dX10_line_0 rfl rfl ?_
  refine aw_iload_n (pc := 1) (i := 1) hC dX10_line_1 rfl rfl ?_
  refine aw_callSR (pc := 2) (As := [.int a1]) hC ms_X10_isRoom kw1585 (by decide) (c_X10_isRoom G C.2.1   μ a1) rfl (Nat.le_of_ble_eq_true rfl) dX10_line_2 (fun q1 => ?_)
  refine aw_nmJ (fun (J20 : Int32 → Option (Int32 × Mem)) => ∀ (x2 : Int32), AW G C (qI G C 0 0) 0 0 7 μ 20 [some (.ref (gad G 0 12)), some (.int a1), some (.int a2), none, none, none, none] [.int x2, .ref (gad G 0 12)] (J20 x2)) (fun x2 => ?_) (fun J20 hJ20 => ?_)
  · skip
    refine aw_putIN (pc := 20) hC inX10 (v0 (j := 12) (by decide)) rfl rfl 0 (by decide) kw1314 rfl tyX10 tyX10_ok nmX10 rfl rfl (Nat.le_of_ble_eq_true rfl) rfl dX10_line_20 (fun μ3 => ?_)
    refine aw_aload_n (pc := 23) (i := 0) hC dX10_line_23 rfl rfl ?_
    refine aw_get (pc := 24) hC inX10 (v0 (j := 12) (by decide)) rfl rfl 0 (by decide) kw1314 rfl rfl dX10_line_24 ?_
    refine aw_if_le (pc := 27) (tgt := 32) hC dX10_line_27 (by decide) (fun _ => ?_) (fun _ => ?_)
    · skip
      refine aw_iconst (pc := 32) (v := 1) hC dX10_line_32 ic1 ?_
      refine aw_iload_n (pc := 33) (i := 1) hC dX10_line_33 rfl rfl ?_
      refine aw_ishl (pc := 34) hC dX10_line_34 ?_
      refine aw_istore_n (pc := 35) (i := 3) hC dX10_line_35 rfl rfl (by decide) ?_
      refine aw_iconst (pc := 36) (v := 0) hC dX10_line_36 ic0 ?_
      refine aw_istore (pc := 37) hC dX10_line_37 rfl (by decide) ?_
      have hL39 : ∀ (n : Nat) (x4 : Int32) (x5 : Int32), AW G C (qI G C 0 0) 0 0 7 μ3 39 [some (.ref (gad G 0 12)), none, some (.int a2), some (.int x4), some (.int x5), none, none] [] (lp_X10_line_39 a2 μ3 n x4 x5) := by
        intro n
        induction n with
        | zero => intro x4 x5; exact aw_none
        | succ n ih =>
          intro x4 x5
          rw [lp_X10_line_39]
          refine aw_iload (pc := 39) hC dX10_line_39 rfl ?_
          refine aw_bipush (pc := 41) (v := 8) hC dX10_line_41 bc8 ?_
          refine aw_icmp_ge (pc := 43) (tgt := 105) hC dX10_line_43 (by decide) (fun _ => ?_) (fun _ => ?_)
          · skip
            refine aw_iconst (pc := 105) (v := (-1)) hC dX10_line_105 icm1 ?_
            exact aw_iret hC dX10_line_106
          · skip
            refine aw_iload_n (pc := 46) (i := 3) hC dX10_line_46 rfl rfl ?_
            refine aw_iload_n (pc := 47) (i := 2) hC dX10_line_47 rfl rfl ?_
            refine aw_callSR (pc := 48) (As := [.int x4, .int a2]) hC ms_X10_isOf kw1578 (by decide) (c_X10_isOf G C.2.1   μ3 x4 a2) rfl (Nat.le_of_ble_eq_true rfl) dX10_line_48 (fun q6 => ?_)
            refine aw_if_eq (pc := 51) (tgt := 57) hC dX10_line_51 (by decide) (fun _ => ?_) (fun _ => ?_)
            · skip
              refine aw_iload_n (pc := 57) (i := 3) hC dX10_line_57 rfl rfl ?_
              refine aw_istore (pc := 58) hC dX10_line_58 rfl (by decide) ?_
              refine aw_iconst (pc := 60) (v := 0) hC dX10_line_60 ic0 ?_
              refine aw_istore (pc := 61) hC dX10_line_61 rfl (by decide) ?_
              have hL63 : ∀ (k99 : Int32 → Option (Int32 × Mem)) (hk99 : ∀ (x7 : Int32), AW G C (qI G C 0 0) 0 0 7 μ3 99 [some (.ref (gad G 0 12)), none, some (.int a2), some (.int x7), some (.int x5), none, none] [] (k99 x7)) (n : Nat) (x8 : Int32) (x9 : Int32), AW G C (qI G C 0 0) 0 0 7 μ3 63 [some (.ref (gad G 0 12)), none, some (.int a2), some (.int x8), some (.int x5), some (.int x4), some (.int x9)] [] (lp_X10_line_63 μ3 x4 k99 n x8 x9) := by
                intro k99 hk99 n
                induction n with
                | zero => intro x8 x9; exact aw_none
                | succ n ih =>
                  intro x8 x9
                  rw [lp_X10_line_63]
                  refine aw_iload (pc := 63) hC dX10_line_63 rfl ?_
                  refine aw_bipush (pc := 65) (v := 8) hC dX10_line_65 bc8 ?_
                  refine aw_icmp_ge (pc := 67) (tgt := 99) hC dX10_line_67 (by decide) (fun _ => ?_) (fun _ => ?_)
                  · skip
                    exact aw_drop [5, 6] (hk99 x8)
                  · skip
                    refine aw_iload (pc := 70) hC dX10_line_70 rfl ?_
                    refine aw_iload (pc := 72) hC dX10_line_72 rfl ?_
                    refine aw_callSR (pc := 74) (As := [.int x4, .int x9]) hC ms_X10_isOf kw1578 (by decide) (c_X10_isOf G C.2.1   μ3 x4 x9) rfl (Nat.le_of_ble_eq_true rfl) dX10_line_74 (fun q10 => ?_)
                    refine aw_if_eq (pc := 77) (tgt := 93) hC dX10_line_77 (by decide) (fun _ => ?_) (fun _ => ?_)
                    · skip
                      refine aw_iinc (pc := 93) (v := x9 + 1) hC dX10_line_93 rfl (congrArg (HAdd.hAdd _) ic1) rfl (by decide) ?_
                      refine aw_goto (pc := 96) (tgt := 63) hC dX10_line_96 (by decide) ?_
                      exact ih x8 (x9 + 1)
                    · skip
                      refine aw_iload_n (pc := 80) (i := 3) hC dX10_line_80 rfl rfl ?_
                      refine aw_aload_n (pc := 81) (i := 0) hC dX10_line_81 rfl rfl ?_
                      refine aw_get (pc := 82) hC inX10 (v0 (j := 12) (by decide)) rfl rfl 1 (by decide) kw1315 rfl rfl dX10_line_82 ?_
                      refine aw_bipush (pc := 85) (v := 16) hC dX10_line_85 bc16 ?_
                      refine aw_iload (pc := 87) hC dX10_line_87 rfl ?_
                      refine aw_iadd (pc := 89) hC dX10_line_89 ?_
                      refine aw_iaload (pc := 90) hC (v0 (j := 13) (by decide)) rfl dX10_line_90 ?_
                      refine aw_ior (pc := 91) hC dX10_line_91 ?_
                      refine aw_nmI (fun x11 _ => ?_)
                      refine aw_istore_n (pc := 92) (i := 3) hC dX10_line_92 rfl rfl (by decide) ?_
                      refine aw_iinc (pc := 93) (v := x9 + 1) hC dX10_line_93 rfl (congrArg (HAdd.hAdd _) ic1) rfl (by decide) ?_
                      refine aw_goto (pc := 96) (tgt := 63) hC dX10_line_96 (by decide) ?_
                      exact ih x11 (x9 + 1)
              refine hL63 (fun (x7 : Int32) => lp_X10_line_39 a2 μ3 n x7 (x5 + 1)) (fun x7 => ?_) 4096 x4 0
              · skip
                refine aw_iinc (pc := 99) (v := x5 + 1) hC dX10_line_99 rfl (congrArg (HAdd.hAdd _) ic1) rfl (by decide) ?_
                refine aw_goto (pc := 102) (tgt := 39) hC dX10_line_102 (by decide) ?_
                exact ih x7 (x5 + 1)
            · skip
              refine aw_iload (pc := 54) hC dX10_line_54 rfl ?_
              exact aw_iret hC dX10_line_56
      exact aw_drop [1] (hL39 4096 (jshl 1 a1) 0)
    · skip
      refine aw_iconst (pc := 30) (v := 0) hC dX10_line_30 ic0 ?_
      exact aw_iret hC dX10_line_31
  · skip
    refine aw_nmJ (fun (J15 : Option (Int32 × Mem)) => AW G C (qI G C 0 0) 0 0 7 μ 15 [some (.ref (gad G 0 12)), some (.int a1), some (.int a2), none, none, none, none] [.ref (gad G 0 12)] (J15)) ?_ (fun J15 hJ15 => ?_)
    · skip
      refine aw_iconst (pc := 15) (v := 1) hC dX10_line_15 ic1 ?_
      refine aw_goto (pc := 16) (tgt := 20) hC dX10_line_16 (by decide) ?_
      exact hJ20 1
    · skip
      refine aw_if_eq (pc := 5) (tgt := 15) hC dX10_line_5 (by decide) (fun _ => ?_) (fun _ => ?_)
      · skip
        exact hJ15
      · skip
        refine aw_iload_n (pc := 8) (i := 2) hC dX10_line_8 rfl rfl ?_
        refine aw_callSR (pc := 9) (As := [.int a2]) hC ms_X10_isRoom kw1585 (by decide) (c_X10_isRoom G C.2.1   μ a2) rfl (Nat.le_of_ble_eq_true rfl) dX10_line_9 (fun q12 => ?_)
        refine aw_if_ne (pc := 12) (tgt := 19) hC dX10_line_12 (by decide) (fun _ => ?_) (fun _ => ?_)
        · skip
          exact hJ15
        · skip
          refine aw_iconst (pc := 19) (v := 0) hC dX10_line_19 ic0 ?_
          exact hJ20 0
theorem dX10_well_0 : decode cX10_well 0 = .ok (.aload_n 0, 1) := by decide +kernel
theorem dX10_well_1 : decode cX10_well 1 = .ok (.iconst 0, 1) := by decide +kernel
theorem dX10_well_2 : decode cX10_well 2 = .ok (.putfield 42, 3) := by decide +kernel
theorem dX10_well_5 : decode cX10_well 5 = .ok (.iconst (-1), 1) := by decide +kernel
theorem dX10_well_6 : decode cX10_well 6 = .ok (.istore_n 1, 1) := by decide +kernel
theorem dX10_well_7 : decode cX10_well 7 = .ok (.iconst 0, 1) := by decide +kernel
theorem dX10_well_8 : decode cX10_well 8 = .ok (.istore_n 2, 1) := by decide +kernel
theorem dX10_well_9 : decode cX10_well 9 = .ok (.iconst 0, 1) := by decide +kernel
theorem dX10_well_10 : decode cX10_well 10 = .ok (.istore_n 3, 1) := by decide +kernel
theorem dX10_well_11 : decode cX10_well 11 = .ok (.iload_n 3, 1) := by decide +kernel
theorem dX10_well_12 : decode cX10_well 12 = .ok (.bipush 8, 2) := by decide +kernel
theorem dX10_well_14 : decode cX10_well 14 = .ok (.if_icmp .ge 35, 3) := by decide +kernel
theorem dX10_well_17 : decode cX10_well 17 = .ok (.aload_n 0, 1) := by decide +kernel
theorem dX10_well_18 : decode cX10_well 18 = .ok (.iload_n 3, 1) := by decide +kernel
theorem dX10_well_19 : decode cX10_well 19 = .ok (.invokevirtual 276, 3) := by decide +kernel
theorem dX10_well_22 : decode cX10_well 22 = .ok (.invokestatic 57, 3) := by decide +kernel
theorem dX10_well_25 : decode cX10_well 25 = .ok (.iload_n 2, 1) := by decide +kernel
theorem dX10_well_26 : decode cX10_well 26 = .ok (.if_icmp .gt 6, 3) := by decide +kernel
theorem dX10_well_29 : decode cX10_well 29 = .ok (.goto 14, 3) := by decide +kernel
theorem dX10_well_32 : decode cX10_well 32 = .ok (.aload_n 0, 1) := by decide +kernel
theorem dX10_well_33 : decode cX10_well 33 = .ok (.iload_n 3, 1) := by decide +kernel
theorem dX10_well_34 : decode cX10_well 34 = .ok (.invokevirtual 276, 3) := by decide +kernel
theorem dX10_well_37 : decode cX10_well 37 = .ok (.invokestatic 57, 3) := by decide +kernel
theorem dX10_well_40 : decode cX10_well 40 = .ok (.istore_n 2, 1) := by decide +kernel
theorem dX10_well_41 : decode cX10_well 41 = .ok (.iload_n 3, 1) := by decide +kernel
theorem dX10_well_42 : decode cX10_well 42 = .ok (.istore_n 1, 1) := by decide +kernel
theorem dX10_well_43 : decode cX10_well 43 = .ok (.iinc 3 1, 3) := by decide +kernel
theorem dX10_well_46 : decode cX10_well 46 = .ok (.goto (-35), 3) := by decide +kernel
theorem dX10_well_49 : decode cX10_well 49 = .ok (.iload_n 1, 1) := by decide +kernel
theorem dX10_well_50 : decode cX10_well 50 = .ok (.ireturn, 1) := by decide +kernel
def lp_X10_well_11 (μ1 : Mem) : Nat → Int32 → Int32 → Int32 → Option (Int32 × Mem)
  | 0, _, _, _ => none
  | n + 1, x2, x3, x4 => if 8 ≤ x4 then (some (x2, μ1)) else ((f_X10_from μ1 x4).bind fun (q5 : Int32) => (f_X10_bits q5).bind fun (q6 : Int32) => if x3 < q6 then ((f_X10_from μ1 x4).bind fun (q7 : Int32) => (f_X10_bits q7).bind fun (q8 : Int32) => lp_X10_well_11 μ1 n x4 q8 (x4 + 1)) else (lp_X10_well_11 μ1 n x2 x3 (x4 + 1)))
def f_X10_well (μ : Mem) : Option (Int32 × Mem) := nm (upm μ 0 12 0 0) fun (μ1 : Mem) => lp_X10_well_11 μ1 4096 (-1) 0 0
set_option maxHeartbeats 4000000 in
set_option maxRecDepth 100000 in
theorem c_X10_well (G : GG) (l : Launch) (μ : Mem) : CI G l yX10_well (.code yX10_well cX10_well 4 (some .int)) 4 [.ref (gad G 0 12)] μ (f_X10_well μ) := by
  refine CI.of (own := "SaturdayKeepModel") (L0 := [some (.ref (gad G 0 12)), none, none, none]) rfl rfl rfl (Nat.le_of_ble_eq_true rfl) (fun C hl hC => ?_)
  subst hl
  delta f_X10_well
  refine aw_aload_n (pc := 0) (i := 0) hC dX10_well_0 rfl rfl ?_
  refine aw_iconst (pc := 1) (v := 0) hC dX10_well_1 ic0 ?_
  refine aw_putIN (pc := 2) hC inX10 (v0 (j := 12) (by decide)) rfl rfl 0 (by decide) kw1314 rfl tyX10 tyX10_ok nmX10 rfl rfl (Nat.le_of_ble_eq_true rfl) rfl dX10_well_2 (fun μ1 => ?_)
  refine aw_iconst (pc := 5) (v := (-1)) hC dX10_well_5 icm1 ?_
  refine aw_istore_n (pc := 6) (i := 1) hC dX10_well_6 rfl rfl (by decide) ?_
  refine aw_iconst (pc := 7) (v := 0) hC dX10_well_7 ic0 ?_
  refine aw_istore_n (pc := 8) (i := 2) hC dX10_well_8 rfl rfl (by decide) ?_
  refine aw_iconst (pc := 9) (v := 0) hC dX10_well_9 ic0 ?_
  refine aw_istore_n (pc := 10) (i := 3) hC dX10_well_10 rfl rfl (by decide) ?_
  have hL11 : ∀ (n : Nat) (x2 : Int32) (x3 : Int32) (x4 : Int32), AW G C (qI G C 0 0) 0 0 4 μ1 11 [some (.ref (gad G 0 12)), some (.int x2), some (.int x3), some (.int x4)] [] (lp_X10_well_11 μ1 n x2 x3 x4) := by
    intro n
    induction n with
    | zero => intro x2 x3 x4; exact aw_none
    | succ n ih =>
      intro x2 x3 x4
      rw [lp_X10_well_11]
      refine aw_iload_n (pc := 11) (i := 3) hC dX10_well_11 rfl rfl ?_
      refine aw_bipush (pc := 12) (v := 8) hC dX10_well_12 bc8 ?_
      refine aw_icmp_ge (pc := 14) (tgt := 49) hC dX10_well_14 (by decide) (fun _ => ?_) (fun _ => ?_)
      · skip
        refine aw_iload_n (pc := 49) (i := 1) hC dX10_well_49 rfl rfl ?_
        exact aw_iret hC dX10_well_50
      · skip
        refine aw_aload_n (pc := 17) (i := 0) hC dX10_well_17 rfl rfl ?_
        refine aw_iload_n (pc := 18) (i := 3) hC dX10_well_18 rfl rfl ?_
        refine aw_callVR (pc := 19) (As := [.int x4]) hC mb_X10_from kw1588 (by decide) (c_X10_from G C.2.1   μ1 x4) (v0 (j := 12) (by decide)) rfl rfl rfl (Nat.le_of_ble_eq_true rfl) dX10_well_19 (fun q5 => ?_)
        refine aw_callSR (pc := 22) (As := [.int q5]) hC ms_X10_bits kw1551 (by decide) (c_X10_bits G C.2.1   μ1 q5) rfl (Nat.le_of_ble_eq_true rfl) dX10_well_22 (fun q6 => ?_)
        refine aw_iload_n (pc := 25) (i := 2) hC dX10_well_25 rfl rfl ?_
        refine aw_icmp_gt (pc := 26) (tgt := 32) hC dX10_well_26 (by decide) (fun _ => ?_) (fun _ => ?_)
        · skip
          refine aw_aload_n (pc := 32) (i := 0) hC dX10_well_32 rfl rfl ?_
          refine aw_iload_n (pc := 33) (i := 3) hC dX10_well_33 rfl rfl ?_
          refine aw_callVR (pc := 34) (As := [.int x4]) hC mb_X10_from kw1588 (by decide) (c_X10_from G C.2.1   μ1 x4) (v0 (j := 12) (by decide)) rfl rfl rfl (Nat.le_of_ble_eq_true rfl) dX10_well_34 (fun q7 => ?_)
          refine aw_callSR (pc := 37) (As := [.int q7]) hC ms_X10_bits kw1551 (by decide) (c_X10_bits G C.2.1   μ1 q7) rfl (Nat.le_of_ble_eq_true rfl) dX10_well_37 (fun q8 => ?_)
          refine aw_istore_n (pc := 40) (i := 2) hC dX10_well_40 rfl rfl (by decide) ?_
          refine aw_iload_n (pc := 41) (i := 3) hC dX10_well_41 rfl rfl ?_
          refine aw_istore_n (pc := 42) (i := 1) hC dX10_well_42 rfl rfl (by decide) ?_
          refine aw_iinc (pc := 43) (v := x4 + 1) hC dX10_well_43 rfl (congrArg (HAdd.hAdd _) ic1) rfl (by decide) ?_
          refine aw_goto (pc := 46) (tgt := 11) hC dX10_well_46 (by decide) ?_
          exact ih x4 q8 (x4 + 1)
        · skip
          refine aw_goto (pc := 29) (tgt := 43) hC dX10_well_29 (by decide) ?_
          refine aw_iinc (pc := 43) (v := x4 + 1) hC dX10_well_43 rfl (congrArg (HAdd.hAdd _) ic1) rfl (by decide) ?_
          refine aw_goto (pc := 46) (tgt := 11) hC dX10_well_46 (by decide) ?_
          exact ih x2 x3 (x4 + 1)
  exact hL11 4096 (-1) 0 0
theorem dX10_round_0 : decode cX10_round 0 = .ok (.iconst 0, 1) := by decide +kernel
theorem dX10_round_1 : decode cX10_round 1 = .ok (.istore 4, 2) := by decide +kernel
theorem dX10_round_3 : decode cX10_round 3 = .ok (.iload_n 1, 1) := by decide +kernel
theorem dX10_round_4 : decode cX10_round 4 = .ok (.istore 5, 2) := by decide +kernel
theorem dX10_round_6 : decode cX10_round 6 = .ok (.iload 5, 2) := by decide +kernel
theorem dX10_round_8 : decode cX10_round 8 = .ok (.iload_n 2, 1) := by decide +kernel
theorem dX10_round_9 : decode cX10_round 9 = .ok (.if_icmp .eq 34, 3) := by decide +kernel
theorem dX10_round_12 : decode cX10_round 12 = .ok (.iload 5, 2) := by decide +kernel
theorem dX10_round_14 : decode cX10_round 14 = .ok (.iload_n 3, 1) := by decide +kernel
theorem dX10_round_15 : decode cX10_round 15 = .ok (.iadd, 1) := by decide +kernel
theorem dX10_round_16 : decode cX10_round 16 = .ok (.bipush 8, 2) := by decide +kernel
theorem dX10_round_18 : decode cX10_round 18 = .ok (.iadd, 1) := by decide +kernel
theorem dX10_round_19 : decode cX10_round 19 = .ok (.bipush 8, 2) := by decide +kernel
theorem dX10_round_21 : decode cX10_round 21 = .ok (.irem, 1) := by decide +kernel
theorem dX10_round_22 : decode cX10_round 22 = .ok (.istore 5, 2) := by decide +kernel
theorem dX10_round_24 : decode cX10_round 24 = .ok (.aload_n 0, 1) := by decide +kernel
theorem dX10_round_25 : decode cX10_round 25 = .ok (.iload 5, 2) := by decide +kernel
theorem dX10_round_27 : decode cX10_round 27 = .ok (.invokevirtual 279, 3) := by decide +kernel
theorem dX10_round_30 : decode cX10_round 30 = .ok (.ifCond .eq 7, 3) := by decide +kernel
theorem dX10_round_33 : decode cX10_round 33 = .ok (.ldc_w 308, 3) := by decide +kernel
theorem dX10_round_36 : decode cX10_round 36 = .ok (.ireturn, 1) := by decide +kernel
theorem dX10_round_37 : decode cX10_round 37 = .ok (.iinc 4 1, 3) := by decide +kernel
theorem dX10_round_40 : decode cX10_round 40 = .ok (.goto (-34), 3) := by decide +kernel
theorem dX10_round_43 : decode cX10_round 43 = .ok (.iload 4, 2) := by decide +kernel
theorem dX10_round_45 : decode cX10_round 45 = .ok (.ireturn, 1) := by decide +kernel
def lp_X10_round_6 (a2 : Int32) (a3 : Int32) (μ : Mem) : Nat → Int32 → Int32 → Option (Int32)
  | 0, _, _ => none
  | n + 1, x1, x2 => if x2 = a2 then (some x1) else ((f_X10_guestsIn μ (jrem ((x2 + a3) + 8) 8)).bind fun (q3 : Int32) => if q3 = 0 then (lp_X10_round_6 a2 a3 μ n (x1 + 1) (jrem ((x2 + a3) + 8) 8)) else (some 2000000000))
def f_X10_round (μ : Mem) (a1 : Int32) (a2 : Int32) (a3 : Int32) : Option (Int32) := lp_X10_round_6 a2 a3 μ 4096 0 a1
set_option maxHeartbeats 4000000 in
set_option maxRecDepth 100000 in
theorem c_X10_round (G : GG) (l : Launch) (μ : Mem) (a1 : Int32) (a2 : Int32) (a3 : Int32) : CR G l yX10_round (.code yX10_round cX10_round 6 (some .int)) 4 [.ref (gad G 0 12), .int a1, .int a2, .int a3] μ (f_X10_round μ a1 a2 a3) := by
  refine CR.of (own := "SaturdayKeepModel") (L0 := [some (.ref (gad G 0 12)), some (.int a1), some (.int a2), some (.int a3), none, none]) rfl rfl rfl (Nat.le_of_ble_eq_true rfl) (fun C hl hC => ?_)
  subst hl
  delta f_X10_round
  refine aw_iconst (pc := 0) (v := 0) hC dX10_round_0 ic0 ?_
  refine aw_istore (pc := 1) hC dX10_round_1 rfl (by decide) ?_
  refine aw_iload_n (pc := 3) (i := 1) hC dX10_round_3 rfl rfl ?_
  refine aw_istore (pc := 4) hC dX10_round_4 rfl (by decide) ?_
  have hL6 : ∀ (n : Nat) (x1 : Int32) (x2 : Int32), AW G C (qR G C 0 0 μ) 0 0 6 μ 6 [some (.ref (gad G 0 12)), none, some (.int a2), some (.int a3), some (.int x1), some (.int x2)] [] (lp_X10_round_6 a2 a3 μ n x1 x2) := by
    intro n
    induction n with
    | zero => intro x1 x2; exact aw_none
    | succ n ih =>
      intro x1 x2
      rw [lp_X10_round_6]
      refine aw_iload (pc := 6) hC dX10_round_6 rfl ?_
      refine aw_iload_n (pc := 8) (i := 2) hC dX10_round_8 rfl rfl ?_
      refine aw_icmp_eq (pc := 9) (tgt := 43) hC dX10_round_9 (by decide) (fun _ => ?_) (fun _ => ?_)
      · skip
        refine aw_iload (pc := 43) hC dX10_round_43 rfl ?_
        exact aw_iretR hC dX10_round_45
      · skip
        refine aw_iload (pc := 12) hC dX10_round_12 rfl ?_
        refine aw_iload_n (pc := 14) (i := 3) hC dX10_round_14 rfl rfl ?_
        refine aw_iadd (pc := 15) hC dX10_round_15 ?_
        refine aw_bipush (pc := 16) (v := 8) hC dX10_round_16 bc8 ?_
        refine aw_iadd (pc := 18) hC dX10_round_18 ?_
        refine aw_bipush (pc := 19) (v := 8) hC dX10_round_19 bc8 ?_
        refine aw_irem (pc := 21) hC dX10_round_21 (by decide) ?_
        refine aw_istore (pc := 22) hC dX10_round_22 rfl (by decide) ?_
        refine aw_aload_n (pc := 24) (i := 0) hC dX10_round_24 rfl rfl ?_
        refine aw_iload (pc := 25) hC dX10_round_25 rfl ?_
        refine aw_callVR (pc := 27) (As := [.int (jrem ((x2 + a3) + 8) 8)]) hC mb_X10_guestsIn kw1592 (by decide) (c_X10_guestsIn G C.2.1   μ (jrem ((x2 + a3) + 8) 8)) (v0 (j := 12) (by decide)) rfl rfl rfl (Nat.le_of_ble_eq_true rfl) dX10_round_27 (fun q3 => ?_)
        refine aw_if_eq (pc := 30) (tgt := 37) hC dX10_round_30 (by decide) (fun _ => ?_) (fun _ => ?_)
        · skip
          refine aw_iinc (pc := 37) (v := x1 + 1) hC dX10_round_37 rfl (congrArg (HAdd.hAdd _) ic1) rfl (by decide) ?_
          refine aw_goto (pc := 40) (tgt := 6) hC dX10_round_40 (by decide) ?_
          exact ih (x1 + 1) (jrem ((x2 + a3) + 8) 8)
        · skip
          refine aw_ldcw (pc := 33) hC kw1753 dX10_round_33 ?_
          exact aw_iretR hC dX10_round_36
  exact aw_drop [1] (hL6 4096 0 a1)
theorem dX10_pass_0 : decode cX10_pass 0 = .ok (.aload_n 0, 1) := by decide +kernel
theorem dX10_pass_1 : decode cX10_pass 1 = .ok (.iload_n 1, 1) := by decide +kernel
theorem dX10_pass_2 : decode cX10_pass 2 = .ok (.invokestatic 273, 3) := by decide +kernel
theorem dX10_pass_5 : decode cX10_pass 5 = .ok (.ifCond .eq 10, 3) := by decide +kernel
theorem dX10_pass_8 : decode cX10_pass 8 = .ok (.iload_n 2, 1) := by decide +kernel
theorem dX10_pass_9 : decode cX10_pass 9 = .ok (.invokestatic 273, 3) := by decide +kernel
theorem dX10_pass_12 : decode cX10_pass 12 = .ok (.ifCond .ne 7, 3) := by decide +kernel
theorem dX10_pass_15 : decode cX10_pass 15 = .ok (.iconst 1, 1) := by decide +kernel
theorem dX10_pass_16 : decode cX10_pass 16 = .ok (.goto 4, 3) := by decide +kernel
theorem dX10_pass_19 : decode cX10_pass 19 = .ok (.iconst 0, 1) := by decide +kernel
theorem dX10_pass_20 : decode cX10_pass 20 = .ok (.putfield 42, 3) := by decide +kernel
theorem dX10_pass_23 : decode cX10_pass 23 = .ok (.aload_n 0, 1) := by decide +kernel
theorem dX10_pass_24 : decode cX10_pass 24 = .ok (.getfield 42, 3) := by decide +kernel
theorem dX10_pass_27 : decode cX10_pass 27 = .ok (.ifCond .le 5, 3) := by decide +kernel
theorem dX10_pass_30 : decode cX10_pass 30 = .ok (.iconst 0, 1) := by decide +kernel
theorem dX10_pass_31 : decode cX10_pass 31 = .ok (.ireturn, 1) := by decide +kernel
theorem dX10_pass_32 : decode cX10_pass 32 = .ok (.aload_n 0, 1) := by decide +kernel
theorem dX10_pass_33 : decode cX10_pass 33 = .ok (.iload_n 1, 1) := by decide +kernel
theorem dX10_pass_34 : decode cX10_pass 34 = .ok (.iload_n 2, 1) := by decide +kernel
theorem dX10_pass_35 : decode cX10_pass 35 = .ok (.iconst 1, 1) := by decide +kernel
theorem dX10_pass_36 : decode cX10_pass 36 = .ok (.invokevirtual 333, 3) := by decide +kernel
theorem dX10_pass_39 : decode cX10_pass 39 = .ok (.aload_n 0, 1) := by decide +kernel
theorem dX10_pass_40 : decode cX10_pass 40 = .ok (.iload_n 1, 1) := by decide +kernel
theorem dX10_pass_41 : decode cX10_pass 41 = .ok (.iload_n 2, 1) := by decide +kernel
theorem dX10_pass_42 : decode cX10_pass 42 = .ok (.iconst (-1), 1) := by decide +kernel
theorem dX10_pass_43 : decode cX10_pass 43 = .ok (.invokevirtual 333, 3) := by decide +kernel
theorem dX10_pass_46 : decode cX10_pass 46 = .ok (.invokestatic 243, 3) := by decide +kernel
theorem dX10_pass_49 : decode cX10_pass 49 = .ok (.istore_n 3, 1) := by decide +kernel
theorem dX10_pass_50 : decode cX10_pass 50 = .ok (.iload_n 3, 1) := by decide +kernel
theorem dX10_pass_51 : decode cX10_pass 51 = .ok (.ldc_w 308, 3) := by decide +kernel
theorem dX10_pass_54 : decode cX10_pass 54 = .ok (.if_icmp .ne 7, 3) := by decide +kernel
theorem dX10_pass_57 : decode cX10_pass 57 = .ok (.iconst (-1), 1) := by decide +kernel
theorem dX10_pass_58 : decode cX10_pass 58 = .ok (.goto 4, 3) := by decide +kernel
theorem dX10_pass_61 : decode cX10_pass 61 = .ok (.iload_n 3, 1) := by decide +kernel
theorem dX10_pass_62 : decode cX10_pass 62 = .ok (.ireturn, 1) := by decide +kernel
def f_X10_pass (μ : Mem) (a1 : Int32) (a2 : Int32) : Option (Int32 × Mem) := (f_X10_isRoom a1).bind fun (q1 : Int32) => nm (fun (x2 : Int32) => nm (upm μ 0 12 0 x2) fun (μ3 : Mem) => if (μ3 0 12 0) ≤ 0 then ((f_X10_round μ3 a1 a2 1).bind fun (q4 : Int32) => (f_X10_round μ3 a1 a2 (-1)).bind fun (q5 : Int32) => (f_X10_lesser q4 q5).bind fun (q6 : Int32) => if q6 = 2000000000 then (some ((-1), μ3)) else (some (q6, μ3))) else (some (0, μ3))) fun (J20 : Int32 → Option (Int32 × Mem)) => nm (J20 1) fun (J15 : Option (Int32 × Mem)) => if q1 = 0 then (J15) else ((f_X10_isRoom a2).bind fun (q7 : Int32) => if q7 = 0 then (J15) else (J20 0))
set_option maxHeartbeats 4000000 in
set_option maxRecDepth 100000 in
theorem c_X10_pass (G : GG) (l : Launch) (μ : Mem) (a1 : Int32) (a2 : Int32) : CI G l yX10_pass (.code yX10_pass cX10_pass 4 (some .int)) 5 [.ref (gad G 0 12), .int a1, .int a2] μ (f_X10_pass μ a1 a2) := by
  refine CI.of (own := "SaturdayKeepModel") (L0 := [some (.ref (gad G 0 12)), some (.int a1), some (.int a2), none]) rfl rfl rfl (Nat.le_of_ble_eq_true rfl) (fun C hl hC => ?_)
  subst hl
  delta f_X10_pass
  refine aw_aload_n (pc := 0) (i := 0) hC dX10_pass_0 rfl rfl ?_
  refine aw_iload_n (pc := 1) (i := 1) hC dX10_pass_1 rfl rfl ?_
  refine aw_callSR (pc := 2) (As := [.int a1]) hC ms_X10_isRoom kw1585 (by decide) (c_X10_isRoom G C.2.1   μ a1) rfl (Nat.le_of_ble_eq_true rfl) dX10_pass_2 (fun q1 => ?_)
  refine aw_nmJ (fun (J20 : Int32 → Option (Int32 × Mem)) => ∀ (x2 : Int32), AW G C (qI G C 0 0) 0 0 4 μ 20 [some (.ref (gad G 0 12)), some (.int a1), some (.int a2), none] [.int x2, .ref (gad G 0 12)] (J20 x2)) (fun x2 => ?_) (fun J20 hJ20 => ?_)
  · skip
    refine aw_putIN (pc := 20) hC inX10 (v0 (j := 12) (by decide)) rfl rfl 0 (by decide) kw1314 rfl tyX10 tyX10_ok nmX10 rfl rfl (Nat.le_of_ble_eq_true rfl) rfl dX10_pass_20 (fun μ3 => ?_)
    refine aw_aload_n (pc := 23) (i := 0) hC dX10_pass_23 rfl rfl ?_
    refine aw_get (pc := 24) hC inX10 (v0 (j := 12) (by decide)) rfl rfl 0 (by decide) kw1314 rfl rfl dX10_pass_24 ?_
    refine aw_if_le (pc := 27) (tgt := 32) hC dX10_pass_27 (by decide) (fun _ => ?_) (fun _ => ?_)
    · skip
      refine aw_aload_n (pc := 32) (i := 0) hC dX10_pass_32 rfl rfl ?_
      refine aw_iload_n (pc := 33) (i := 1) hC dX10_pass_33 rfl rfl ?_
      refine aw_iload_n (pc := 34) (i := 2) hC dX10_pass_34 rfl rfl ?_
      refine aw_iconst (pc := 35) (v := 1) hC dX10_pass_35 ic1 ?_
      refine aw_callVR (pc := 36) (As := [.int a1, .int a2, .int 1]) hC mb_X10_round kw1818 (by decide) (c_X10_round G C.2.1   μ3 a1 a2 1) (v0 (j := 12) (by decide)) rfl rfl rfl (Nat.le_of_ble_eq_true rfl) dX10_pass_36 (fun q4 => ?_)
      refine aw_aload_n (pc := 39) (i := 0) hC dX10_pass_39 rfl rfl ?_
      refine aw_iload_n (pc := 40) (i := 1) hC dX10_pass_40 rfl rfl ?_
      refine aw_iload_n (pc := 41) (i := 2) hC dX10_pass_41 rfl rfl ?_
      refine aw_iconst (pc := 42) (v := (-1)) hC dX10_pass_42 icm1 ?_
      refine aw_callVR (pc := 43) (As := [.int a1, .int a2, .int (-1)]) hC mb_X10_round kw1818 (by decide) (c_X10_round G C.2.1   μ3 a1 a2 (-1)) (v0 (j := 12) (by decide)) rfl rfl rfl (Nat.le_of_ble_eq_true rfl) dX10_pass_43 (fun q5 => ?_)
      refine aw_callSR (pc := 46) (As := [.int q4, .int q5]) hC ms_X10_lesser kw1648 (by decide) (c_X10_lesser G C.2.1   μ3 q4 q5) rfl (Nat.le_of_ble_eq_true rfl) dX10_pass_46 (fun q6 => ?_)
      refine aw_istore_n (pc := 49) (i := 3) hC dX10_pass_49 rfl rfl (by decide) ?_
      refine aw_iload_n (pc := 50) (i := 3) hC dX10_pass_50 rfl rfl ?_
      refine aw_ldcw (pc := 51) hC kw1753 dX10_pass_51 ?_
      refine aw_icmp_ne (pc := 54) (tgt := 61) hC dX10_pass_54 (by decide) (fun _ => ?_) (fun _ => ?_)
      · skip
        refine aw_iconst (pc := 57) (v := (-1)) hC dX10_pass_57 icm1 ?_
        refine aw_goto (pc := 58) (tgt := 62) hC dX10_pass_58 (by decide) ?_
        exact aw_iret hC dX10_pass_62
      · skip
        refine aw_iload_n (pc := 61) (i := 3) hC dX10_pass_61 rfl rfl ?_
        exact aw_iret hC dX10_pass_62
    · skip
      refine aw_iconst (pc := 30) (v := 0) hC dX10_pass_30 ic0 ?_
      exact aw_iret hC dX10_pass_31
  · skip
    refine aw_nmJ (fun (J15 : Option (Int32 × Mem)) => AW G C (qI G C 0 0) 0 0 4 μ 15 [some (.ref (gad G 0 12)), some (.int a1), some (.int a2), none] [.ref (gad G 0 12)] (J15)) ?_ (fun J15 hJ15 => ?_)
    · skip
      refine aw_iconst (pc := 15) (v := 1) hC dX10_pass_15 ic1 ?_
      refine aw_goto (pc := 16) (tgt := 20) hC dX10_pass_16 (by decide) ?_
      exact hJ20 1
    · skip
      refine aw_if_eq (pc := 5) (tgt := 15) hC dX10_pass_5 (by decide) (fun _ => ?_) (fun _ => ?_)
      · skip
        exact hJ15
      · skip
        refine aw_iload_n (pc := 8) (i := 2) hC dX10_pass_8 rfl rfl ?_
        refine aw_callSR (pc := 9) (As := [.int a2]) hC ms_X10_isRoom kw1585 (by decide) (c_X10_isRoom G C.2.1   μ a2) rfl (Nat.le_of_ble_eq_true rfl) dX10_pass_9 (fun q7 => ?_)
        refine aw_if_ne (pc := 12) (tgt := 19) hC dX10_pass_12 (by decide) (fun _ => ?_) (fun _ => ?_)
        · skip
          exact hJ15
        · skip
          refine aw_iconst (pc := 19) (v := 0) hC dX10_pass_19 ic0 ?_
          exact hJ20 0
theorem dX10_crowd_0 : decode cX10_crowd 0 = .ok (.aload_n 0, 1) := by decide +kernel
theorem dX10_crowd_1 : decode cX10_crowd 1 = .ok (.iconst 0, 1) := by decide +kernel
theorem dX10_crowd_2 : decode cX10_crowd 2 = .ok (.putfield 42, 3) := by decide +kernel
theorem dX10_crowd_5 : decode cX10_crowd 5 = .ok (.iconst (-1), 1) := by decide +kernel
theorem dX10_crowd_6 : decode cX10_crowd 6 = .ok (.istore_n 1, 1) := by decide +kernel
theorem dX10_crowd_7 : decode cX10_crowd 7 = .ok (.iconst 0, 1) := by decide +kernel
theorem dX10_crowd_8 : decode cX10_crowd 8 = .ok (.istore_n 2, 1) := by decide +kernel
theorem dX10_crowd_9 : decode cX10_crowd 9 = .ok (.iconst 0, 1) := by decide +kernel
theorem dX10_crowd_10 : decode cX10_crowd 10 = .ok (.istore_n 3, 1) := by decide +kernel
theorem dX10_crowd_11 : decode cX10_crowd 11 = .ok (.iload_n 3, 1) := by decide +kernel
theorem dX10_crowd_12 : decode cX10_crowd 12 = .ok (.bipush 8, 2) := by decide +kernel
theorem dX10_crowd_14 : decode cX10_crowd 14 = .ok (.if_icmp .ge 35, 3) := by decide +kernel
theorem dX10_crowd_17 : decode cX10_crowd 17 = .ok (.aload_n 0, 1) := by decide +kernel
theorem dX10_crowd_18 : decode cX10_crowd 18 = .ok (.iload_n 3, 1) := by decide +kernel
theorem dX10_crowd_19 : decode cX10_crowd 19 = .ok (.invokevirtual 279, 3) := by decide +kernel
theorem dX10_crowd_22 : decode cX10_crowd 22 = .ok (.invokestatic 57, 3) := by decide +kernel
theorem dX10_crowd_25 : decode cX10_crowd 25 = .ok (.iload_n 2, 1) := by decide +kernel
theorem dX10_crowd_26 : decode cX10_crowd 26 = .ok (.if_icmp .gt 6, 3) := by decide +kernel
theorem dX10_crowd_29 : decode cX10_crowd 29 = .ok (.goto 14, 3) := by decide +kernel
theorem dX10_crowd_32 : decode cX10_crowd 32 = .ok (.aload_n 0, 1) := by decide +kernel
theorem dX10_crowd_33 : decode cX10_crowd 33 = .ok (.iload_n 3, 1) := by decide +kernel
theorem dX10_crowd_34 : decode cX10_crowd 34 = .ok (.invokevirtual 279, 3) := by decide +kernel
theorem dX10_crowd_37 : decode cX10_crowd 37 = .ok (.invokestatic 57, 3) := by decide +kernel
theorem dX10_crowd_40 : decode cX10_crowd 40 = .ok (.istore_n 2, 1) := by decide +kernel
theorem dX10_crowd_41 : decode cX10_crowd 41 = .ok (.iload_n 3, 1) := by decide +kernel
theorem dX10_crowd_42 : decode cX10_crowd 42 = .ok (.istore_n 1, 1) := by decide +kernel
theorem dX10_crowd_43 : decode cX10_crowd 43 = .ok (.iinc 3 1, 3) := by decide +kernel
theorem dX10_crowd_46 : decode cX10_crowd 46 = .ok (.goto (-35), 3) := by decide +kernel
theorem dX10_crowd_49 : decode cX10_crowd 49 = .ok (.iload_n 1, 1) := by decide +kernel
theorem dX10_crowd_50 : decode cX10_crowd 50 = .ok (.ireturn, 1) := by decide +kernel
def lp_X10_crowd_11 (μ1 : Mem) : Nat → Int32 → Int32 → Int32 → Option (Int32 × Mem)
  | 0, _, _, _ => none
  | n + 1, x2, x3, x4 => if 8 ≤ x4 then (some (x2, μ1)) else ((f_X10_guestsIn μ1 x4).bind fun (q5 : Int32) => (f_X10_bits q5).bind fun (q6 : Int32) => if x3 < q6 then ((f_X10_guestsIn μ1 x4).bind fun (q7 : Int32) => (f_X10_bits q7).bind fun (q8 : Int32) => lp_X10_crowd_11 μ1 n x4 q8 (x4 + 1)) else (lp_X10_crowd_11 μ1 n x2 x3 (x4 + 1)))
def f_X10_crowd (μ : Mem) : Option (Int32 × Mem) := nm (upm μ 0 12 0 0) fun (μ1 : Mem) => lp_X10_crowd_11 μ1 4096 (-1) 0 0
set_option maxHeartbeats 4000000 in
set_option maxRecDepth 100000 in
theorem c_X10_crowd (G : GG) (l : Launch) (μ : Mem) : CI G l yX10_crowd (.code yX10_crowd cX10_crowd 4 (some .int)) 4 [.ref (gad G 0 12)] μ (f_X10_crowd μ) := by
  refine CI.of (own := "SaturdayKeepModel") (L0 := [some (.ref (gad G 0 12)), none, none, none]) rfl rfl rfl (Nat.le_of_ble_eq_true rfl) (fun C hl hC => ?_)
  subst hl
  delta f_X10_crowd
  refine aw_aload_n (pc := 0) (i := 0) hC dX10_crowd_0 rfl rfl ?_
  refine aw_iconst (pc := 1) (v := 0) hC dX10_crowd_1 ic0 ?_
  refine aw_putIN (pc := 2) hC inX10 (v0 (j := 12) (by decide)) rfl rfl 0 (by decide) kw1314 rfl tyX10 tyX10_ok nmX10 rfl rfl (Nat.le_of_ble_eq_true rfl) rfl dX10_crowd_2 (fun μ1 => ?_)
  refine aw_iconst (pc := 5) (v := (-1)) hC dX10_crowd_5 icm1 ?_
  refine aw_istore_n (pc := 6) (i := 1) hC dX10_crowd_6 rfl rfl (by decide) ?_
  refine aw_iconst (pc := 7) (v := 0) hC dX10_crowd_7 ic0 ?_
  refine aw_istore_n (pc := 8) (i := 2) hC dX10_crowd_8 rfl rfl (by decide) ?_
  refine aw_iconst (pc := 9) (v := 0) hC dX10_crowd_9 ic0 ?_
  refine aw_istore_n (pc := 10) (i := 3) hC dX10_crowd_10 rfl rfl (by decide) ?_
  have hL11 : ∀ (n : Nat) (x2 : Int32) (x3 : Int32) (x4 : Int32), AW G C (qI G C 0 0) 0 0 4 μ1 11 [some (.ref (gad G 0 12)), some (.int x2), some (.int x3), some (.int x4)] [] (lp_X10_crowd_11 μ1 n x2 x3 x4) := by
    intro n
    induction n with
    | zero => intro x2 x3 x4; exact aw_none
    | succ n ih =>
      intro x2 x3 x4
      rw [lp_X10_crowd_11]
      refine aw_iload_n (pc := 11) (i := 3) hC dX10_crowd_11 rfl rfl ?_
      refine aw_bipush (pc := 12) (v := 8) hC dX10_crowd_12 bc8 ?_
      refine aw_icmp_ge (pc := 14) (tgt := 49) hC dX10_crowd_14 (by decide) (fun _ => ?_) (fun _ => ?_)
      · skip
        refine aw_iload_n (pc := 49) (i := 1) hC dX10_crowd_49 rfl rfl ?_
        exact aw_iret hC dX10_crowd_50
      · skip
        refine aw_aload_n (pc := 17) (i := 0) hC dX10_crowd_17 rfl rfl ?_
        refine aw_iload_n (pc := 18) (i := 3) hC dX10_crowd_18 rfl rfl ?_
        refine aw_callVR (pc := 19) (As := [.int x4]) hC mb_X10_guestsIn kw1592 (by decide) (c_X10_guestsIn G C.2.1   μ1 x4) (v0 (j := 12) (by decide)) rfl rfl rfl (Nat.le_of_ble_eq_true rfl) dX10_crowd_19 (fun q5 => ?_)
        refine aw_callSR (pc := 22) (As := [.int q5]) hC ms_X10_bits kw1551 (by decide) (c_X10_bits G C.2.1   μ1 q5) rfl (Nat.le_of_ble_eq_true rfl) dX10_crowd_22 (fun q6 => ?_)
        refine aw_iload_n (pc := 25) (i := 2) hC dX10_crowd_25 rfl rfl ?_
        refine aw_icmp_gt (pc := 26) (tgt := 32) hC dX10_crowd_26 (by decide) (fun _ => ?_) (fun _ => ?_)
        · skip
          refine aw_aload_n (pc := 32) (i := 0) hC dX10_crowd_32 rfl rfl ?_
          refine aw_iload_n (pc := 33) (i := 3) hC dX10_crowd_33 rfl rfl ?_
          refine aw_callVR (pc := 34) (As := [.int x4]) hC mb_X10_guestsIn kw1592 (by decide) (c_X10_guestsIn G C.2.1   μ1 x4) (v0 (j := 12) (by decide)) rfl rfl rfl (Nat.le_of_ble_eq_true rfl) dX10_crowd_34 (fun q7 => ?_)
          refine aw_callSR (pc := 37) (As := [.int q7]) hC ms_X10_bits kw1551 (by decide) (c_X10_bits G C.2.1   μ1 q7) rfl (Nat.le_of_ble_eq_true rfl) dX10_crowd_37 (fun q8 => ?_)
          refine aw_istore_n (pc := 40) (i := 2) hC dX10_crowd_40 rfl rfl (by decide) ?_
          refine aw_iload_n (pc := 41) (i := 3) hC dX10_crowd_41 rfl rfl ?_
          refine aw_istore_n (pc := 42) (i := 1) hC dX10_crowd_42 rfl rfl (by decide) ?_
          refine aw_iinc (pc := 43) (v := x4 + 1) hC dX10_crowd_43 rfl (congrArg (HAdd.hAdd _) ic1) rfl (by decide) ?_
          refine aw_goto (pc := 46) (tgt := 11) hC dX10_crowd_46 (by decide) ?_
          exact ih x4 q8 (x4 + 1)
        · skip
          refine aw_goto (pc := 29) (tgt := 43) hC dX10_crowd_29 (by decide) ?_
          refine aw_iinc (pc := 43) (v := x4 + 1) hC dX10_crowd_43 rfl (congrArg (HAdd.hAdd _) ic1) rfl (by decide) ?_
          refine aw_goto (pc := 46) (tgt := 11) hC dX10_crowd_46 (by decide) ?_
          exact ih x2 x3 (x4 + 1)
  exact hL11 4096 (-1) 0 0
theorem dX10_locked_0 : decode cX10_locked 0 = .ok (.aload_n 0, 1) := by decide +kernel
theorem dX10_locked_1 : decode cX10_locked 1 = .ok (.iconst 0, 1) := by decide +kernel
theorem dX10_locked_2 : decode cX10_locked 2 = .ok (.putfield 42, 3) := by decide +kernel
theorem dX10_locked_5 : decode cX10_locked 5 = .ok (.iconst 0, 1) := by decide +kernel
theorem dX10_locked_6 : decode cX10_locked 6 = .ok (.istore_n 1, 1) := by decide +kernel
theorem dX10_locked_7 : decode cX10_locked 7 = .ok (.iconst 0, 1) := by decide +kernel
theorem dX10_locked_8 : decode cX10_locked 8 = .ok (.istore_n 2, 1) := by decide +kernel
theorem dX10_locked_9 : decode cX10_locked 9 = .ok (.iload_n 2, 1) := by decide +kernel
theorem dX10_locked_10 : decode cX10_locked 10 = .ok (.aload_n 0, 1) := by decide +kernel
theorem dX10_locked_11 : decode cX10_locked 11 = .ok (.getfield 7, 3) := by decide +kernel
theorem dX10_locked_14 : decode cX10_locked 14 = .ok (.iconst 3, 1) := by decide +kernel
theorem dX10_locked_15 : decode cX10_locked 15 = .ok (.iaload, 1) := by decide +kernel
theorem dX10_locked_16 : decode cX10_locked 16 = .ok (.if_icmp .ge 56, 3) := by decide +kernel
theorem dX10_locked_19 : decode cX10_locked 19 = .ok (.iload_n 1, 1) := by decide +kernel
theorem dX10_locked_20 : decode cX10_locked 20 = .ok (.aload_n 0, 1) := by decide +kernel
theorem dX10_locked_21 : decode cX10_locked 21 = .ok (.aload_n 0, 1) := by decide +kernel
theorem dX10_locked_22 : decode cX10_locked 22 = .ok (.getfield 7, 3) := by decide +kernel
theorem dX10_locked_25 : decode cX10_locked 25 = .ok (.iconst 4, 1) := by decide +kernel
theorem dX10_locked_26 : decode cX10_locked 26 = .ok (.iaload, 1) := by decide +kernel
theorem dX10_locked_27 : decode cX10_locked 27 = .ok (.invokevirtual 252, 3) := by decide +kernel
theorem dX10_locked_30 : decode cX10_locked 30 = .ok (.iload_n 2, 1) := by decide +kernel
theorem dX10_locked_31 : decode cX10_locked 31 = .ok (.invokestatic 53, 3) := by decide +kernel
theorem dX10_locked_34 : decode cX10_locked 34 = .ok (.ifCond .eq 29, 3) := by decide +kernel
theorem dX10_locked_37 : decode cX10_locked 37 = .ok (.aload_n 0, 1) := by decide +kernel
theorem dX10_locked_38 : decode cX10_locked 38 = .ok (.aload_n 0, 1) := by decide +kernel
theorem dX10_locked_39 : decode cX10_locked 39 = .ok (.iload_n 2, 1) := by decide +kernel
theorem dX10_locked_40 : decode cX10_locked 40 = .ok (.iconst 0, 1) := by decide +kernel
theorem dX10_locked_41 : decode cX10_locked 41 = .ok (.invokevirtual 49, 3) := by decide +kernel
theorem dX10_locked_44 : decode cX10_locked 44 = .ok (.iconst 0, 1) := by decide +kernel
theorem dX10_locked_45 : decode cX10_locked 45 = .ok (.aload_n 0, 1) := by decide +kernel
theorem dX10_locked_46 : decode cX10_locked 46 = .ok (.getfield 7, 3) := by decide +kernel
theorem dX10_locked_49 : decode cX10_locked 49 = .ok (.iconst 4, 1) := by decide +kernel
theorem dX10_locked_50 : decode cX10_locked 50 = .ok (.iaload, 1) := by decide +kernel
theorem dX10_locked_51 : decode cX10_locked 51 = .ok (.invokevirtual 232, 3) := by decide +kernel
theorem dX10_locked_54 : decode cX10_locked 54 = .ok (.ifCond .ne 9, 3) := by decide +kernel
theorem dX10_locked_57 : decode cX10_locked 57 = .ok (.iconst 1, 1) := by decide +kernel
theorem dX10_locked_58 : decode cX10_locked 58 = .ok (.iload_n 2, 1) := by decide +kernel
theorem dX10_locked_59 : decode cX10_locked 59 = .ok (.ishl, 1) := by decide +kernel
theorem dX10_locked_60 : decode cX10_locked 60 = .ok (.goto 4, 3) := by decide +kernel
theorem dX10_locked_63 : decode cX10_locked 63 = .ok (.iconst 0, 1) := by decide +kernel
theorem dX10_locked_64 : decode cX10_locked 64 = .ok (.ior, 1) := by decide +kernel
theorem dX10_locked_65 : decode cX10_locked 65 = .ok (.istore_n 1, 1) := by decide +kernel
theorem dX10_locked_66 : decode cX10_locked 66 = .ok (.iinc 2 1, 3) := by decide +kernel
theorem dX10_locked_69 : decode cX10_locked 69 = .ok (.goto (-60), 3) := by decide +kernel
theorem dX10_locked_72 : decode cX10_locked 72 = .ok (.iload_n 1, 1) := by decide +kernel
theorem dX10_locked_73 : decode cX10_locked 73 = .ok (.ireturn, 1) := by decide +kernel
def lp_X10_locked_9 (μ1 : Mem) : Nat → Int32 → Int32 → Option (Int32 × Mem)
  | 0, _, _ => none
  | n + 1, x2, x3 => ix 3 704 (if (μ1 0 13 (Int32.toNatClampNeg 3)) ≤ x3 then (some (x2, μ1)) else (ix 4 704 ((f_X10_watchers μ1 (μ1 0 13 (Int32.toNatClampNeg 4))).bind fun (q4 : Int32) => (f_X10_isOf q4 x3).bind fun (q5 : Int32) => if q5 = 0 then (lp_X10_locked_9 μ1 n (x2 ||| 0) (x3 + 1)) else ((f_X10_of μ1 x3 0).bind fun (q6 : Int32) => ix 4 704 ((f_X10_seesFrom μ1 q6 0 (μ1 0 13 (Int32.toNatClampNeg 4))).bind fun (q7 : Int32) => if q7 = 0 then (lp_X10_locked_9 μ1 n (x2 ||| (jshl 1 x3)) (x3 + 1)) else (lp_X10_locked_9 μ1 n (x2 ||| 0) (x3 + 1)))))))
def f_X10_locked (μ : Mem) : Option (Int32 × Mem) := nm (upm μ 0 12 0 0) fun (μ1 : Mem) => lp_X10_locked_9 μ1 4096 0 0
set_option maxHeartbeats 4000000 in
set_option maxRecDepth 100000 in
theorem c_X10_locked (G : GG) (l : Launch) (μ : Mem) : CI G l yX10_locked (.code yX10_locked cX10_locked 3 (some .int)) 6 [.ref (gad G 0 12)] μ (f_X10_locked μ) := by
  refine CI.of (own := "SaturdayKeepModel") (L0 := [some (.ref (gad G 0 12)), none, none]) rfl rfl rfl (Nat.le_of_ble_eq_true rfl) (fun C hl hC => ?_)
  subst hl
  delta f_X10_locked
  refine aw_aload_n (pc := 0) (i := 0) hC dX10_locked_0 rfl rfl ?_
  refine aw_iconst (pc := 1) (v := 0) hC dX10_locked_1 ic0 ?_
  refine aw_putIN (pc := 2) hC inX10 (v0 (j := 12) (by decide)) rfl rfl 0 (by decide) kw1314 rfl tyX10 tyX10_ok nmX10 rfl rfl (Nat.le_of_ble_eq_true rfl) rfl dX10_locked_2 (fun μ1 => ?_)
  refine aw_iconst (pc := 5) (v := 0) hC dX10_locked_5 ic0 ?_
  refine aw_istore_n (pc := 6) (i := 1) hC dX10_locked_6 rfl rfl (by decide) ?_
  refine aw_iconst (pc := 7) (v := 0) hC dX10_locked_7 ic0 ?_
  refine aw_istore_n (pc := 8) (i := 2) hC dX10_locked_8 rfl rfl (by decide) ?_
  have hL9 : ∀ (n : Nat) (x2 : Int32) (x3 : Int32), AW G C (qI G C 0 0) 0 0 3 μ1 9 [some (.ref (gad G 0 12)), some (.int x2), some (.int x3)] [] (lp_X10_locked_9 μ1 n x2 x3) := by
    intro n
    induction n with
    | zero => intro x2 x3; exact aw_none
    | succ n ih =>
      intro x2 x3
      rw [lp_X10_locked_9]
      refine aw_iload_n (pc := 9) (i := 2) hC dX10_locked_9 rfl rfl ?_
      refine aw_aload_n (pc := 10) (i := 0) hC dX10_locked_10 rfl rfl ?_
      refine aw_get (pc := 11) hC inX10 (v0 (j := 12) (by decide)) rfl rfl 1 (by decide) kw1315 rfl rfl dX10_locked_11 ?_
      refine aw_iconst (pc := 14) (v := 3) hC dX10_locked_14 ic3 ?_
      refine aw_iaload (pc := 15) hC (v0 (j := 13) (by decide)) rfl dX10_locked_15 ?_
      refine aw_icmp_ge (pc := 16) (tgt := 72) hC dX10_locked_16 (by decide) (fun _ => ?_) (fun _ => ?_)
      · skip
        refine aw_iload_n (pc := 72) (i := 1) hC dX10_locked_72 rfl rfl ?_
        exact aw_iret hC dX10_locked_73
      · skip
        refine aw_iload_n (pc := 19) (i := 1) hC dX10_locked_19 rfl rfl ?_
        refine aw_aload_n (pc := 20) (i := 0) hC dX10_locked_20 rfl rfl ?_
        refine aw_aload_n (pc := 21) (i := 0) hC dX10_locked_21 rfl rfl ?_
        refine aw_get (pc := 22) hC inX10 (v0 (j := 12) (by decide)) rfl rfl 1 (by decide) kw1315 rfl rfl dX10_locked_22 ?_
        refine aw_iconst (pc := 25) (v := 4) hC dX10_locked_25 ic4 ?_
        refine aw_iaload (pc := 26) hC (v0 (j := 13) (by decide)) rfl dX10_locked_26 ?_
        refine aw_callVR (pc := 27) (As := [.int (μ1 0 13 (Int32.toNatClampNeg 4))]) hC mb_X10_watchers kw1596 (by decide) (c_X10_watchers G C.2.1   μ1 (μ1 0 13 (Int32.toNatClampNeg 4))) (v0 (j := 12) (by decide)) rfl rfl rfl (Nat.le_of_ble_eq_true rfl) dX10_locked_27 (fun q4 => ?_)
        refine aw_iload_n (pc := 30) (i := 2) hC dX10_locked_30 rfl rfl ?_
        refine aw_callSR (pc := 31) (As := [.int q4, .int x3]) hC ms_X10_isOf kw1578 (by decide) (c_X10_isOf G C.2.1   μ1 q4 x3) rfl (Nat.le_of_ble_eq_true rfl) dX10_locked_31 (fun q5 => ?_)
        refine aw_if_eq (pc := 34) (tgt := 63) hC dX10_locked_34 (by decide) (fun _ => ?_) (fun _ => ?_)
        · skip
          refine aw_iconst (pc := 63) (v := 0) hC dX10_locked_63 ic0 ?_
          refine aw_ior (pc := 64) hC dX10_locked_64 ?_
          refine aw_istore_n (pc := 65) (i := 1) hC dX10_locked_65 rfl rfl (by decide) ?_
          refine aw_iinc (pc := 66) (v := x3 + 1) hC dX10_locked_66 rfl (congrArg (HAdd.hAdd _) ic1) rfl (by decide) ?_
          refine aw_goto (pc := 69) (tgt := 9) hC dX10_locked_69 (by decide) ?_
          exact ih (x2 ||| 0) (x3 + 1)
        · skip
          refine aw_aload_n (pc := 37) (i := 0) hC dX10_locked_37 rfl rfl ?_
          refine aw_aload_n (pc := 38) (i := 0) hC dX10_locked_38 rfl rfl ?_
          refine aw_iload_n (pc := 39) (i := 2) hC dX10_locked_39 rfl rfl ?_
          refine aw_iconst (pc := 40) (v := 0) hC dX10_locked_40 ic0 ?_
          refine aw_callVR (pc := 41) (As := [.int x3, .int 0]) hC mb_X10_of kw1539 (by decide) (c_X10_of G C.2.1   μ1 x3 0) (v0 (j := 12) (by decide)) rfl rfl rfl (Nat.le_of_ble_eq_true rfl) dX10_locked_41 (fun q6 => ?_)
          refine aw_iconst (pc := 44) (v := 0) hC dX10_locked_44 ic0 ?_
          refine aw_aload_n (pc := 45) (i := 0) hC dX10_locked_45 rfl rfl ?_
          refine aw_get (pc := 46) hC inX10 (v0 (j := 12) (by decide)) rfl rfl 1 (by decide) kw1315 rfl rfl dX10_locked_46 ?_
          refine aw_iconst (pc := 49) (v := 4) hC dX10_locked_49 ic4 ?_
          refine aw_iaload (pc := 50) hC (v0 (j := 13) (by decide)) rfl dX10_locked_50 ?_
          refine aw_callVR (pc := 51) (As := [.int q6, .int 0, .int (μ1 0 13 (Int32.toNatClampNeg 4))]) hC mb_X10_seesFrom kw1570 (by decide) (c_X10_seesFrom G C.2.1   μ1 q6 0 (μ1 0 13 (Int32.toNatClampNeg 4))) (v0 (j := 12) (by decide)) rfl rfl rfl (Nat.le_of_ble_eq_true rfl) dX10_locked_51 (fun q7 => ?_)
          refine aw_if_ne (pc := 54) (tgt := 63) hC dX10_locked_54 (by decide) (fun _ => ?_) (fun _ => ?_)
          · skip
            refine aw_iconst (pc := 57) (v := 1) hC dX10_locked_57 ic1 ?_
            refine aw_iload_n (pc := 58) (i := 2) hC dX10_locked_58 rfl rfl ?_
            refine aw_ishl (pc := 59) hC dX10_locked_59 ?_
            refine aw_goto (pc := 60) (tgt := 64) hC dX10_locked_60 (by decide) ?_
            refine aw_ior (pc := 64) hC dX10_locked_64 ?_
            refine aw_istore_n (pc := 65) (i := 1) hC dX10_locked_65 rfl rfl (by decide) ?_
            refine aw_iinc (pc := 66) (v := x3 + 1) hC dX10_locked_66 rfl (congrArg (HAdd.hAdd _) ic1) rfl (by decide) ?_
            refine aw_goto (pc := 69) (tgt := 9) hC dX10_locked_69 (by decide) ?_
            exact ih (x2 ||| (jshl 1 x3)) (x3 + 1)
          · skip
            refine aw_iconst (pc := 63) (v := 0) hC dX10_locked_63 ic0 ?_
            refine aw_ior (pc := 64) hC dX10_locked_64 ?_
            refine aw_istore_n (pc := 65) (i := 1) hC dX10_locked_65 rfl rfl (by decide) ?_
            refine aw_iinc (pc := 66) (v := x3 + 1) hC dX10_locked_66 rfl (congrArg (HAdd.hAdd _) ic1) rfl (by decide) ?_
            refine aw_goto (pc := 69) (tgt := 9) hC dX10_locked_69 (by decide) ?_
            exact ih (x2 ||| 0) (x3 + 1)
  exact hL9 4096 0 0
theorem dX10_agree_0 : decode cX10_agree 0 = .ok (.aload_n 0, 1) := by decide +kernel
theorem dX10_agree_1 : decode cX10_agree 1 = .ok (.iload_n 1, 1) := by decide +kernel
theorem dX10_agree_2 : decode cX10_agree 2 = .ok (.iconst 0, 1) := by decide +kernel
theorem dX10_agree_3 : decode cX10_agree 3 = .ok (.sipush 400, 3) := by decide +kernel
theorem dX10_agree_6 : decode cX10_agree 6 = .ok (.invokestatic 45, 3) := by decide +kernel
theorem dX10_agree_9 : decode cX10_agree 9 = .ok (.ifCond .ne 7, 3) := by decide +kernel
theorem dX10_agree_12 : decode cX10_agree 12 = .ok (.iconst 1, 1) := by decide +kernel
theorem dX10_agree_13 : decode cX10_agree 13 = .ok (.goto 4, 3) := by decide +kernel
theorem dX10_agree_16 : decode cX10_agree 16 = .ok (.iconst 0, 1) := by decide +kernel
theorem dX10_agree_17 : decode cX10_agree 17 = .ok (.putfield 42, 3) := by decide +kernel
theorem dX10_agree_20 : decode cX10_agree 20 = .ok (.iconst 0, 1) := by decide +kernel
theorem dX10_agree_21 : decode cX10_agree 21 = .ok (.istore_n 2, 1) := by decide +kernel
theorem dX10_agree_22 : decode cX10_agree 22 = .ok (.iconst 0, 1) := by decide +kernel
theorem dX10_agree_23 : decode cX10_agree 23 = .ok (.istore_n 3, 1) := by decide +kernel
theorem dX10_agree_24 : decode cX10_agree 24 = .ok (.iload_n 3, 1) := by decide +kernel
theorem dX10_agree_25 : decode cX10_agree 25 = .ok (.iload_n 1, 1) := by decide +kernel
theorem dX10_agree_26 : decode cX10_agree 26 = .ok (.if_icmp .ge 55, 3) := by decide +kernel
theorem dX10_agree_29 : decode cX10_agree 29 = .ok (.aload_n 0, 1) := by decide +kernel
theorem dX10_agree_30 : decode cX10_agree 30 = .ok (.getfield 42, 3) := by decide +kernel
theorem dX10_agree_33 : decode cX10_agree 33 = .ok (.ifCond .ne 48, 3) := by decide +kernel
theorem dX10_agree_36 : decode cX10_agree 36 = .ok (.iload_n 2, 1) := by decide +kernel
theorem dX10_agree_37 : decode cX10_agree 37 = .ok (.aload_n 0, 1) := by decide +kernel
theorem dX10_agree_38 : decode cX10_agree 38 = .ok (.iconst 0, 1) := by decide +kernel
theorem dX10_agree_39 : decode cX10_agree 39 = .ok (.aload_n 0, 1) := by decide +kernel
theorem dX10_agree_40 : decode cX10_agree 40 = .ok (.getfield 7, 3) := by decide +kernel
theorem dX10_agree_43 : decode cX10_agree 43 = .ok (.bipush 10, 2) := by decide +kernel
theorem dX10_agree_45 : decode cX10_agree 45 = .ok (.iaload, 1) := by decide +kernel
theorem dX10_agree_46 : decode cX10_agree 46 = .ok (.iload_n 3, 1) := by decide +kernel
theorem dX10_agree_47 : decode cX10_agree 47 = .ok (.iadd, 1) := by decide +kernel
theorem dX10_agree_48 : decode cX10_agree 48 = .ok (.invokevirtual 226, 3) := by decide +kernel
theorem dX10_agree_51 : decode cX10_agree 51 = .ok (.aload_n 0, 1) := by decide +kernel
theorem dX10_agree_52 : decode cX10_agree 52 = .ok (.iconst 1, 1) := by decide +kernel
theorem dX10_agree_53 : decode cX10_agree 53 = .ok (.aload_n 0, 1) := by decide +kernel
theorem dX10_agree_54 : decode cX10_agree 54 = .ok (.getfield 7, 3) := by decide +kernel
theorem dX10_agree_57 : decode cX10_agree 57 = .ok (.bipush 10, 2) := by decide +kernel
theorem dX10_agree_59 : decode cX10_agree 59 = .ok (.iaload, 1) := by decide +kernel
theorem dX10_agree_60 : decode cX10_agree 60 = .ok (.iload_n 3, 1) := by decide +kernel
theorem dX10_agree_61 : decode cX10_agree 61 = .ok (.iadd, 1) := by decide +kernel
theorem dX10_agree_62 : decode cX10_agree 62 = .ok (.invokevirtual 226, 3) := by decide +kernel
theorem dX10_agree_65 : decode cX10_agree 65 = .ok (.if_icmp .ne 7, 3) := by decide +kernel
theorem dX10_agree_68 : decode cX10_agree 68 = .ok (.iconst 1, 1) := by decide +kernel
theorem dX10_agree_69 : decode cX10_agree 69 = .ok (.goto 4, 3) := by decide +kernel
theorem dX10_agree_72 : decode cX10_agree 72 = .ok (.iconst 0, 1) := by decide +kernel
theorem dX10_agree_73 : decode cX10_agree 73 = .ok (.iadd, 1) := by decide +kernel
theorem dX10_agree_74 : decode cX10_agree 74 = .ok (.istore_n 2, 1) := by decide +kernel
theorem dX10_agree_75 : decode cX10_agree 75 = .ok (.iinc 3 1, 3) := by decide +kernel
theorem dX10_agree_78 : decode cX10_agree 78 = .ok (.goto (-54), 3) := by decide +kernel
theorem dX10_agree_81 : decode cX10_agree 81 = .ok (.iload_n 2, 1) := by decide +kernel
theorem dX10_agree_82 : decode cX10_agree 82 = .ok (.ireturn, 1) := by decide +kernel
def lp_X10_agree_24 (a1 : Int32) (μ3 : Mem) : Nat → Int32 → Int32 → Option (Int32 × Mem)
  | 0, _, _ => none
  | n + 1, x4, x5 => if a1 ≤ x5 then (some (x4, μ3)) else (if (μ3 0 12 0) = 0 then (ix 10 704 ((f_X10_isSaturday μ3 0 ((μ3 0 13 (Int32.toNatClampNeg 10)) + x5)).bind fun (q6 : Int32) => ix 10 704 ((f_X10_isSaturday μ3 1 ((μ3 0 13 (Int32.toNatClampNeg 10)) + x5)).bind fun (q7 : Int32) => if q6 = q7 then (lp_X10_agree_24 a1 μ3 n (x4 + 1) (x5 + 1)) else (lp_X10_agree_24 a1 μ3 n (x4 + 0) (x5 + 1))))) else (some (x4, μ3)))
def f_X10_agree (μ : Mem) (a1 : Int32) : Option (Int32 × Mem) := (f_X10_isIn a1 0 400).bind fun (q1 : Int32) => nm (fun (x2 : Int32) => nm (upm μ 0 12 0 x2) fun (μ3 : Mem) => lp_X10_agree_24 a1 μ3 4096 0 0) fun (J17 : Int32 → Option (Int32 × Mem)) => if q1 = 0 then (J17 1) else (J17 0)
set_option maxHeartbeats 4000000 in
set_option maxRecDepth 100000 in
theorem c_X10_agree (G : GG) (l : Launch) (μ : Mem) (a1 : Int32) : CI G l yX10_agree (.code yX10_agree cX10_agree 4 (some .int)) 2 [.ref (gad G 0 12), .int a1] μ (f_X10_agree μ a1) := by
  refine CI.of (own := "SaturdayKeepModel") (L0 := [some (.ref (gad G 0 12)), some (.int a1), none, none]) rfl rfl rfl (Nat.le_of_ble_eq_true rfl) (fun C hl hC => ?_)
  subst hl
  delta f_X10_agree
  refine aw_aload_n (pc := 0) (i := 0) hC dX10_agree_0 rfl rfl ?_
  refine aw_iload_n (pc := 1) (i := 1) hC dX10_agree_1 rfl rfl ?_
  refine aw_iconst (pc := 2) (v := 0) hC dX10_agree_2 ic0 ?_
  refine aw_sipush (pc := 3) (v := 400) hC dX10_agree_3 sc400 ?_
  refine aw_callSR (pc := 6) (As := [.int a1, .int 0, .int 400]) hC ms_X10_isIn kw1394 (by decide) (c_X10_isIn G C.2.1   μ a1 0 400) rfl (Nat.le_of_ble_eq_true rfl) dX10_agree_6 (fun q1 => ?_)
  refine aw_nmJ (fun (J17 : Int32 → Option (Int32 × Mem)) => ∀ (x2 : Int32), AW G C (qI G C 0 0) 0 0 4 μ 17 [some (.ref (gad G 0 12)), some (.int a1), none, none] [.int x2, .ref (gad G 0 12)] (J17 x2)) (fun x2 => ?_) (fun J17 hJ17 => ?_)
  · skip
    refine aw_putIN (pc := 17) hC inX10 (v0 (j := 12) (by decide)) rfl rfl 0 (by decide) kw1314 rfl tyX10 tyX10_ok nmX10 rfl rfl (Nat.le_of_ble_eq_true rfl) rfl dX10_agree_17 (fun μ3 => ?_)
    refine aw_iconst (pc := 20) (v := 0) hC dX10_agree_20 ic0 ?_
    refine aw_istore_n (pc := 21) (i := 2) hC dX10_agree_21 rfl rfl (by decide) ?_
    refine aw_iconst (pc := 22) (v := 0) hC dX10_agree_22 ic0 ?_
    refine aw_istore_n (pc := 23) (i := 3) hC dX10_agree_23 rfl rfl (by decide) ?_
    have hL24 : ∀ (n : Nat) (x4 : Int32) (x5 : Int32), AW G C (qI G C 0 0) 0 0 4 μ3 24 [some (.ref (gad G 0 12)), some (.int a1), some (.int x4), some (.int x5)] [] (lp_X10_agree_24 a1 μ3 n x4 x5) := by
      intro n
      induction n with
      | zero => intro x4 x5; exact aw_none
      | succ n ih =>
        intro x4 x5
        rw [lp_X10_agree_24]
        refine aw_iload_n (pc := 24) (i := 3) hC dX10_agree_24 rfl rfl ?_
        refine aw_iload_n (pc := 25) (i := 1) hC dX10_agree_25 rfl rfl ?_
        refine aw_icmp_ge (pc := 26) (tgt := 81) hC dX10_agree_26 (by decide) (fun _ => ?_) (fun _ => ?_)
        · skip
          refine aw_iload_n (pc := 81) (i := 2) hC dX10_agree_81 rfl rfl ?_
          exact aw_iret hC dX10_agree_82
        · skip
          refine aw_aload_n (pc := 29) (i := 0) hC dX10_agree_29 rfl rfl ?_
          refine aw_get (pc := 30) hC inX10 (v0 (j := 12) (by decide)) rfl rfl 0 (by decide) kw1314 rfl rfl dX10_agree_30 ?_
          refine aw_if_ne (pc := 33) (tgt := 81) hC dX10_agree_33 (by decide) (fun _ => ?_) (fun _ => ?_)
          · skip
            refine aw_iload_n (pc := 36) (i := 2) hC dX10_agree_36 rfl rfl ?_
            refine aw_aload_n (pc := 37) (i := 0) hC dX10_agree_37 rfl rfl ?_
            refine aw_iconst (pc := 38) (v := 0) hC dX10_agree_38 ic0 ?_
            refine aw_aload_n (pc := 39) (i := 0) hC dX10_agree_39 rfl rfl ?_
            refine aw_get (pc := 40) hC inX10 (v0 (j := 12) (by decide)) rfl rfl 1 (by decide) kw1315 rfl rfl dX10_agree_40 ?_
            refine aw_bipush (pc := 43) (v := 10) hC dX10_agree_43 bc10 ?_
            refine aw_iaload (pc := 45) hC (v0 (j := 13) (by decide)) rfl dX10_agree_45 ?_
            refine aw_iload_n (pc := 46) (i := 3) hC dX10_agree_46 rfl rfl ?_
            refine aw_iadd (pc := 47) hC dX10_agree_47 ?_
            refine aw_callVR (pc := 48) (As := [.int 0, .int ((μ3 0 13 (Int32.toNatClampNeg 10)) + x5)]) hC mb_X10_isSaturday kw1554 (by decide) (c_X10_isSaturday G C.2.1   μ3 0 ((μ3 0 13 (Int32.toNatClampNeg 10)) + x5)) (v0 (j := 12) (by decide)) rfl rfl rfl (Nat.le_of_ble_eq_true rfl) dX10_agree_48 (fun q6 => ?_)
            refine aw_aload_n (pc := 51) (i := 0) hC dX10_agree_51 rfl rfl ?_
            refine aw_iconst (pc := 52) (v := 1) hC dX10_agree_52 ic1 ?_
            refine aw_aload_n (pc := 53) (i := 0) hC dX10_agree_53 rfl rfl ?_
            refine aw_get (pc := 54) hC inX10 (v0 (j := 12) (by decide)) rfl rfl 1 (by decide) kw1315 rfl rfl dX10_agree_54 ?_
            refine aw_bipush (pc := 57) (v := 10) hC dX10_agree_57 bc10 ?_
            refine aw_iaload (pc := 59) hC (v0 (j := 13) (by decide)) rfl dX10_agree_59 ?_
            refine aw_iload_n (pc := 60) (i := 3) hC dX10_agree_60 rfl rfl ?_
            refine aw_iadd (pc := 61) hC dX10_agree_61 ?_
            refine aw_callVR (pc := 62) (As := [.int 1, .int ((μ3 0 13 (Int32.toNatClampNeg 10)) + x5)]) hC mb_X10_isSaturday kw1554 (by decide) (c_X10_isSaturday G C.2.1   μ3 1 ((μ3 0 13 (Int32.toNatClampNeg 10)) + x5)) (v0 (j := 12) (by decide)) rfl rfl rfl (Nat.le_of_ble_eq_true rfl) dX10_agree_62 (fun q7 => ?_)
            refine aw_icmp_ne (pc := 65) (tgt := 72) hC dX10_agree_65 (by decide) (fun _ => ?_) (fun _ => ?_)
            · skip
              refine aw_iconst (pc := 68) (v := 1) hC dX10_agree_68 ic1 ?_
              refine aw_goto (pc := 69) (tgt := 73) hC dX10_agree_69 (by decide) ?_
              refine aw_iadd (pc := 73) hC dX10_agree_73 ?_
              refine aw_istore_n (pc := 74) (i := 2) hC dX10_agree_74 rfl rfl (by decide) ?_
              refine aw_iinc (pc := 75) (v := x5 + 1) hC dX10_agree_75 rfl (congrArg (HAdd.hAdd _) ic1) rfl (by decide) ?_
              refine aw_goto (pc := 78) (tgt := 24) hC dX10_agree_78 (by decide) ?_
              exact ih (x4 + 1) (x5 + 1)
            · skip
              refine aw_iconst (pc := 72) (v := 0) hC dX10_agree_72 ic0 ?_
              refine aw_iadd (pc := 73) hC dX10_agree_73 ?_
              refine aw_istore_n (pc := 74) (i := 2) hC dX10_agree_74 rfl rfl (by decide) ?_
              refine aw_iinc (pc := 75) (v := x5 + 1) hC dX10_agree_75 rfl (congrArg (HAdd.hAdd _) ic1) rfl (by decide) ?_
              refine aw_goto (pc := 78) (tgt := 24) hC dX10_agree_78 (by decide) ?_
              exact ih (x4 + 0) (x5 + 1)
          · skip
            refine aw_iload_n (pc := 81) (i := 2) hC dX10_agree_81 rfl rfl ?_
            exact aw_iret hC dX10_agree_82
    exact hL24 4096 0 0
  · skip
    refine aw_if_ne (pc := 9) (tgt := 16) hC dX10_agree_9 (by decide) (fun _ => ?_) (fun _ => ?_)
    · skip
      refine aw_iconst (pc := 12) (v := 1) hC dX10_agree_12 ic1 ?_
      refine aw_goto (pc := 13) (tgt := 17) hC dX10_agree_13 (by decide) ?_
      exact hJ17 1
    · skip
      refine aw_iconst (pc := 16) (v := 0) hC dX10_agree_16 ic0 ?_
      exact hJ17 0
theorem dX10_need_0 : decode cX10_need 0 = .ok (.aload_n 0, 1) := by decide +kernel
theorem dX10_need_1 : decode cX10_need 1 = .ok (.iload_n 1, 1) := by decide +kernel
theorem dX10_need_2 : decode cX10_need 2 = .ok (.iconst 1, 1) := by decide +kernel
theorem dX10_need_3 : decode cX10_need 3 = .ok (.sipush 9999, 3) := by decide +kernel
theorem dX10_need_6 : decode cX10_need 6 = .ok (.invokestatic 45, 3) := by decide +kernel
theorem dX10_need_9 : decode cX10_need 9 = .ok (.ifCond .ne 7, 3) := by decide +kernel
theorem dX10_need_12 : decode cX10_need 12 = .ok (.iconst 1, 1) := by decide +kernel
theorem dX10_need_13 : decode cX10_need 13 = .ok (.goto 4, 3) := by decide +kernel
theorem dX10_need_16 : decode cX10_need 16 = .ok (.iconst 0, 1) := by decide +kernel
theorem dX10_need_17 : decode cX10_need 17 = .ok (.putfield 42, 3) := by decide +kernel
theorem dX10_need_20 : decode cX10_need 20 = .ok (.aload_n 0, 1) := by decide +kernel
theorem dX10_need_21 : decode cX10_need 21 = .ok (.getfield 42, 3) := by decide +kernel
theorem dX10_need_24 : decode cX10_need 24 = .ok (.ifCond .le 7, 3) := by decide +kernel
theorem dX10_need_27 : decode cX10_need 27 = .ok (.iconst 0, 1) := by decide +kernel
theorem dX10_need_28 : decode cX10_need 28 = .ok (.goto 24, 3) := by decide +kernel
theorem dX10_need_31 : decode cX10_need 31 = .ok (.iconst 0, 1) := by decide +kernel
theorem dX10_need_32 : decode cX10_need 32 = .ok (.iload_n 1, 1) := by decide +kernel
theorem dX10_need_33 : decode cX10_need 33 = .ok (.aload_n 0, 1) := by decide +kernel
theorem dX10_need_34 : decode cX10_need 34 = .ok (.getfield 7, 3) := by decide +kernel
theorem dX10_need_37 : decode cX10_need 37 = .ok (.bipush 8, 2) := by decide +kernel
theorem dX10_need_39 : decode cX10_need 39 = .ok (.iaload, 1) := by decide +kernel
theorem dX10_need_40 : decode cX10_need 40 = .ok (.isub, 1) := by decide +kernel
theorem dX10_need_41 : decode cX10_need 41 = .ok (.aload_n 0, 1) := by decide +kernel
theorem dX10_need_42 : decode cX10_need 42 = .ok (.getfield 7, 3) := by decide +kernel
theorem dX10_need_45 : decode cX10_need 45 = .ok (.bipush 7, 2) := by decide +kernel
theorem dX10_need_47 : decode cX10_need 47 = .ok (.iaload, 1) := by decide +kernel
theorem dX10_need_48 : decode cX10_need 48 = .ok (.isub, 1) := by decide +kernel
theorem dX10_need_49 : decode cX10_need 49 = .ok (.invokestatic 249, 3) := by decide +kernel
theorem dX10_need_52 : decode cX10_need 52 = .ok (.ireturn, 1) := by decide +kernel
def f_X10_need (μ : Mem) (a1 : Int32) : Option (Int32 × Mem) := (f_X10_isIn a1 1 9999).bind fun (q1 : Int32) => nm (fun (x2 : Int32) => nm (upm μ 0 12 0 x2) fun (μ3 : Mem) => if (μ3 0 12 0) ≤ 0 then (ix 8 704 (ix 7 704 ((f_X10_greater 0 ((a1 - (μ3 0 13 (Int32.toNatClampNeg 8))) - (μ3 0 13 (Int32.toNatClampNeg 7)))).bind fun (q4 : Int32) => some (q4, μ3)))) else (some (0, μ3))) fun (J17 : Int32 → Option (Int32 × Mem)) => if q1 = 0 then (J17 1) else (J17 0)
set_option maxHeartbeats 4000000 in
set_option maxRecDepth 100000 in
theorem c_X10_need (G : GG) (l : Launch) (μ : Mem) (a1 : Int32) : CI G l yX10_need (.code yX10_need cX10_need 2 (some .int)) 2 [.ref (gad G 0 12), .int a1] μ (f_X10_need μ a1) := by
  refine CI.of (own := "SaturdayKeepModel") (L0 := [some (.ref (gad G 0 12)), some (.int a1)]) rfl rfl rfl (Nat.le_of_ble_eq_true rfl) (fun C hl hC => ?_)
  subst hl
  delta f_X10_need
  refine aw_aload_n (pc := 0) (i := 0) hC dX10_need_0 rfl rfl ?_
  refine aw_iload_n (pc := 1) (i := 1) hC dX10_need_1 rfl rfl ?_
  refine aw_iconst (pc := 2) (v := 1) hC dX10_need_2 ic1 ?_
  refine aw_sipush (pc := 3) (v := 9999) hC dX10_need_3 sc9999 ?_
  refine aw_callSR (pc := 6) (As := [.int a1, .int 1, .int 9999]) hC ms_X10_isIn kw1394 (by decide) (c_X10_isIn G C.2.1   μ a1 1 9999) rfl (Nat.le_of_ble_eq_true rfl) dX10_need_6 (fun q1 => ?_)
  refine aw_nmJ (fun (J17 : Int32 → Option (Int32 × Mem)) => ∀ (x2 : Int32), AW G C (qI G C 0 0) 0 0 2 μ 17 [some (.ref (gad G 0 12)), some (.int a1)] [.int x2, .ref (gad G 0 12)] (J17 x2)) (fun x2 => ?_) (fun J17 hJ17 => ?_)
  · skip
    refine aw_putIN (pc := 17) hC inX10 (v0 (j := 12) (by decide)) rfl rfl 0 (by decide) kw1314 rfl tyX10 tyX10_ok nmX10 rfl rfl (Nat.le_of_ble_eq_true rfl) rfl dX10_need_17 (fun μ3 => ?_)
    refine aw_aload_n (pc := 20) (i := 0) hC dX10_need_20 rfl rfl ?_
    refine aw_get (pc := 21) hC inX10 (v0 (j := 12) (by decide)) rfl rfl 0 (by decide) kw1314 rfl rfl dX10_need_21 ?_
    refine aw_if_le (pc := 24) (tgt := 31) hC dX10_need_24 (by decide) (fun _ => ?_) (fun _ => ?_)
    · skip
      refine aw_iconst (pc := 31) (v := 0) hC dX10_need_31 ic0 ?_
      refine aw_iload_n (pc := 32) (i := 1) hC dX10_need_32 rfl rfl ?_
      refine aw_aload_n (pc := 33) (i := 0) hC dX10_need_33 rfl rfl ?_
      refine aw_get (pc := 34) hC inX10 (v0 (j := 12) (by decide)) rfl rfl 1 (by decide) kw1315 rfl rfl dX10_need_34 ?_
      refine aw_bipush (pc := 37) (v := 8) hC dX10_need_37 bc8 ?_
      refine aw_iaload (pc := 39) hC (v0 (j := 13) (by decide)) rfl dX10_need_39 ?_
      refine aw_isub (pc := 40) hC dX10_need_40 ?_
      refine aw_aload_n (pc := 41) (i := 0) hC dX10_need_41 rfl rfl ?_
      refine aw_get (pc := 42) hC inX10 (v0 (j := 12) (by decide)) rfl rfl 1 (by decide) kw1315 rfl rfl dX10_need_42 ?_
      refine aw_bipush (pc := 45) (v := 7) hC dX10_need_45 bc7 ?_
      refine aw_iaload (pc := 47) hC (v0 (j := 13) (by decide)) rfl dX10_need_47 ?_
      refine aw_isub (pc := 48) hC dX10_need_48 ?_
      refine aw_callSR (pc := 49) (As := [.int 0, .int ((a1 - (μ3 0 13 (Int32.toNatClampNeg 8))) - (μ3 0 13 (Int32.toNatClampNeg 7)))]) hC ms_X10_greater kw1663 (by decide) (c_X10_greater G C.2.1   μ3 0 ((a1 - (μ3 0 13 (Int32.toNatClampNeg 8))) - (μ3 0 13 (Int32.toNatClampNeg 7)))) rfl (Nat.le_of_ble_eq_true rfl) dX10_need_49 (fun q4 => ?_)
      exact aw_iret hC dX10_need_52
    · skip
      refine aw_iconst (pc := 27) (v := 0) hC dX10_need_27 ic0 ?_
      refine aw_goto (pc := 28) (tgt := 52) hC dX10_need_28 (by decide) ?_
      exact aw_iret hC dX10_need_52
  · skip
    refine aw_if_ne (pc := 9) (tgt := 16) hC dX10_need_9 (by decide) (fun _ => ?_) (fun _ => ?_)
    · skip
      refine aw_iconst (pc := 12) (v := 1) hC dX10_need_12 ic1 ?_
      refine aw_goto (pc := 13) (tgt := 17) hC dX10_need_13 (by decide) ?_
      exact hJ17 1
    · skip
      refine aw_iconst (pc := 16) (v := 0) hC dX10_need_16 ic0 ?_
      exact hJ17 0
theorem dX10_spread_0 : decode cX10_spread 0 = .ok (.aload_n 0, 1) := by decide +kernel
theorem dX10_spread_1 : decode cX10_spread 1 = .ok (.iload_n 1, 1) := by decide +kernel
theorem dX10_spread_2 : decode cX10_spread 2 = .ok (.iconst 0, 1) := by decide +kernel
theorem dX10_spread_3 : decode cX10_spread 3 = .ok (.sipush 400, 3) := by decide +kernel
theorem dX10_spread_6 : decode cX10_spread 6 = .ok (.invokestatic 45, 3) := by decide +kernel
theorem dX10_spread_9 : decode cX10_spread 9 = .ok (.ifCond .ne 7, 3) := by decide +kernel
theorem dX10_spread_12 : decode cX10_spread 12 = .ok (.iconst 1, 1) := by decide +kernel
theorem dX10_spread_13 : decode cX10_spread 13 = .ok (.goto 4, 3) := by decide +kernel
theorem dX10_spread_16 : decode cX10_spread 16 = .ok (.iconst 0, 1) := by decide +kernel
theorem dX10_spread_17 : decode cX10_spread 17 = .ok (.putfield 42, 3) := by decide +kernel
theorem dX10_spread_20 : decode cX10_spread 20 = .ok (.aload_n 0, 1) := by decide +kernel
theorem dX10_spread_21 : decode cX10_spread 21 = .ok (.getfield 42, 3) := by decide +kernel
theorem dX10_spread_24 : decode cX10_spread 24 = .ok (.ifCond .le 5, 3) := by decide +kernel
theorem dX10_spread_27 : decode cX10_spread 27 = .ok (.iconst 0, 1) := by decide +kernel
theorem dX10_spread_28 : decode cX10_spread 28 = .ok (.ireturn, 1) := by decide +kernel
theorem dX10_spread_29 : decode cX10_spread 29 = .ok (.aload_n 0, 1) := by decide +kernel
theorem dX10_spread_30 : decode cX10_spread 30 = .ok (.invokevirtual 159, 3) := by decide +kernel
theorem dX10_spread_33 : decode cX10_spread 33 = .ok (.aload_n 0, 1) := by decide +kernel
theorem dX10_spread_34 : decode cX10_spread 34 = .ok (.iload_n 1, 1) := by decide +kernel
theorem dX10_spread_35 : decode cX10_spread 35 = .ok (.iconst 0, 1) := by decide +kernel
theorem dX10_spread_36 : decode cX10_spread 36 = .ok (.invokevirtual 288, 3) := by decide +kernel
theorem dX10_spread_39 : decode cX10_spread 39 = .ok (.istore_n 2, 1) := by decide +kernel
theorem dX10_spread_40 : decode cX10_spread 40 = .ok (.bipush 99, 2) := by decide +kernel
theorem dX10_spread_42 : decode cX10_spread 42 = .ok (.istore_n 3, 1) := by decide +kernel
theorem dX10_spread_43 : decode cX10_spread 43 = .ok (.iconst 0, 1) := by decide +kernel
theorem dX10_spread_44 : decode cX10_spread 44 = .ok (.istore 4, 2) := by decide +kernel
theorem dX10_spread_46 : decode cX10_spread 46 = .ok (.iconst 0, 1) := by decide +kernel
theorem dX10_spread_47 : decode cX10_spread 47 = .ok (.istore 5, 2) := by decide +kernel
theorem dX10_spread_49 : decode cX10_spread 49 = .ok (.iconst 0, 1) := by decide +kernel
theorem dX10_spread_50 : decode cX10_spread 50 = .ok (.istore 6, 2) := by decide +kernel
theorem dX10_spread_52 : decode cX10_spread 52 = .ok (.iload 6, 2) := by decide +kernel
theorem dX10_spread_54 : decode cX10_spread 54 = .ok (.aload_n 0, 1) := by decide +kernel
theorem dX10_spread_55 : decode cX10_spread 55 = .ok (.getfield 7, 3) := by decide +kernel
theorem dX10_spread_58 : decode cX10_spread 58 = .ok (.iconst 3, 1) := by decide +kernel
theorem dX10_spread_59 : decode cX10_spread 59 = .ok (.iaload, 1) := by decide +kernel
theorem dX10_spread_60 : decode cX10_spread 60 = .ok (.if_icmp .ge 50, 3) := by decide +kernel
theorem dX10_spread_63 : decode cX10_spread 63 = .ok (.aload_n 0, 1) := by decide +kernel
theorem dX10_spread_64 : decode cX10_spread 64 = .ok (.iload 6, 2) := by decide +kernel
theorem dX10_spread_66 : decode cX10_spread 66 = .ok (.invokevirtual 236, 3) := by decide +kernel
theorem dX10_spread_69 : decode cX10_spread 69 = .ok (.ifCond .ne 6, 3) := by decide +kernel
theorem dX10_spread_72 : decode cX10_spread 72 = .ok (.goto 32, 3) := by decide +kernel
theorem dX10_spread_75 : decode cX10_spread 75 = .ok (.iconst 1, 1) := by decide +kernel
theorem dX10_spread_76 : decode cX10_spread 76 = .ok (.istore 5, 2) := by decide +kernel
theorem dX10_spread_78 : decode cX10_spread 78 = .ok (.iload_n 3, 1) := by decide +kernel
theorem dX10_spread_79 : decode cX10_spread 79 = .ok (.aload_n 0, 1) := by decide +kernel
theorem dX10_spread_80 : decode cX10_spread 80 = .ok (.iload 6, 2) := by decide +kernel
theorem dX10_spread_82 : decode cX10_spread 82 = .ok (.iconst 2, 1) := by decide +kernel
theorem dX10_spread_83 : decode cX10_spread 83 = .ok (.invokevirtual 49, 3) := by decide +kernel
theorem dX10_spread_86 : decode cX10_spread 86 = .ok (.invokestatic 243, 3) := by decide +kernel
theorem dX10_spread_89 : decode cX10_spread 89 = .ok (.istore_n 3, 1) := by decide +kernel
theorem dX10_spread_90 : decode cX10_spread 90 = .ok (.iload 4, 2) := by decide +kernel
theorem dX10_spread_92 : decode cX10_spread 92 = .ok (.aload_n 0, 1) := by decide +kernel
theorem dX10_spread_93 : decode cX10_spread 93 = .ok (.iload 6, 2) := by decide +kernel
theorem dX10_spread_95 : decode cX10_spread 95 = .ok (.iconst 2, 1) := by decide +kernel
theorem dX10_spread_96 : decode cX10_spread 96 = .ok (.invokevirtual 49, 3) := by decide +kernel
theorem dX10_spread_99 : decode cX10_spread 99 = .ok (.invokestatic 249, 3) := by decide +kernel
theorem dX10_spread_102 : decode cX10_spread 102 = .ok (.istore 4, 2) := by decide +kernel
theorem dX10_spread_104 : decode cX10_spread 104 = .ok (.iinc 6 1, 3) := by decide +kernel
theorem dX10_spread_107 : decode cX10_spread 107 = .ok (.goto (-55), 3) := by decide +kernel
theorem dX10_spread_110 : decode cX10_spread 110 = .ok (.aload_n 0, 1) := by decide +kernel
theorem dX10_spread_111 : decode cX10_spread 111 = .ok (.invokevirtual 169, 3) := by decide +kernel
theorem dX10_spread_114 : decode cX10_spread 114 = .ok (.iload 5, 2) := by decide +kernel
theorem dX10_spread_116 : decode cX10_spread 116 = .ok (.ifCond .eq 10, 3) := by decide +kernel
theorem dX10_spread_119 : decode cX10_spread 119 = .ok (.iload 4, 2) := by decide +kernel
theorem dX10_spread_121 : decode cX10_spread 121 = .ok (.iload_n 3, 1) := by decide +kernel
theorem dX10_spread_122 : decode cX10_spread 122 = .ok (.isub, 1) := by decide +kernel
theorem dX10_spread_123 : decode cX10_spread 123 = .ok (.goto 4, 3) := by decide +kernel
theorem dX10_spread_126 : decode cX10_spread 126 = .ok (.iconst 0, 1) := by decide +kernel
theorem dX10_spread_127 : decode cX10_spread 127 = .ok (.ireturn, 1) := by decide +kernel
def lp_X10_spread_52 (q5 : Int32 × Mem) (k110 : Int32 → Int32 → Int32 → Option (Int32 × Mem)) : Nat → Int32 → Int32 → Int32 → Int32 → Option (Int32 × Mem)
  | 0, _, _, _, _ => none
  | n + 1, x9, x10, x11, x12 => ix 3 704 (if (q5.2 0 13 (Int32.toNatClampNeg 3)) ≤ x12 then (k110 x9 x10 x11) else ((f_X10_isHere q5.2 x12).bind fun (q13 : Int32) => if q13 = 0 then (lp_X10_spread_52 q5 k110 n x9 x10 x11 (x12 + 1)) else ((f_X10_of q5.2 x12 2).bind fun (q14 : Int32) => (f_X10_lesser x9 q14).bind fun (q15 : Int32) => (f_X10_of q5.2 x12 2).bind fun (q16 : Int32) => (f_X10_greater x10 q16).bind fun (q17 : Int32) => lp_X10_spread_52 q5 k110 n q15 q17 1 (x12 + 1))))
def f_X10_spread (μ : Mem) (a1 : Int32) : Option (Int32 × Mem) := (f_X10_isIn a1 0 400).bind fun (q1 : Int32) => nm (fun (x2 : Int32) => nm (upm μ 0 12 0 x2) fun (μ3 : Mem) => if (μ3 0 12 0) ≤ 0 then ((f_X10_putsAside μ3).bind fun (q4 : Mem) => (f_X10_goes q4 a1 0).bind fun (q5 : Int32 × Mem) => lp_X10_spread_52 q5 (fun (x6 : Int32) (x7 : Int32) (x8 : Int32) => (f_X10_comesBack q5.2).bind fun (q18 : Mem) => if x8 = 0 then (some (0, q18)) else (some ((x7 - x6), q18))) 4096 99 0 0 0) else (some (0, μ3))) fun (J17 : Int32 → Option (Int32 × Mem)) => if q1 = 0 then (J17 1) else (J17 0)
set_option maxHeartbeats 4000000 in
set_option maxRecDepth 100000 in
theorem c_X10_spread (G : GG) (l : Launch) (μ : Mem) (a1 : Int32) : CI G l yX10_spread (.code yX10_spread cX10_spread 7 (some .int)) 59 [.ref (gad G 0 12), .int a1] μ (f_X10_spread μ a1) := by
  refine CI.of (own := "SaturdayKeepModel") (L0 := [some (.ref (gad G 0 12)), some (.int a1), none, none, none, none, none]) rfl rfl rfl (Nat.le_of_ble_eq_true rfl) (fun C hl hC => ?_)
  subst hl
  delta f_X10_spread
  refine aw_aload_n (pc := 0) (i := 0) hC dX10_spread_0 rfl rfl ?_
  refine aw_iload_n (pc := 1) (i := 1) hC dX10_spread_1 rfl rfl ?_
  refine aw_iconst (pc := 2) (v := 0) hC dX10_spread_2 ic0 ?_
  refine aw_sipush (pc := 3) (v := 400) hC dX10_spread_3 sc400 ?_
  refine aw_callSR (pc := 6) (As := [.int a1, .int 0, .int 400]) hC ms_X10_isIn kw1394 (by decide) (c_X10_isIn G C.2.1   μ a1 0 400) rfl (Nat.le_of_ble_eq_true rfl) dX10_spread_6 (fun q1 => ?_)
  refine aw_nmJ (fun (J17 : Int32 → Option (Int32 × Mem)) => ∀ (x2 : Int32), AW G C (qI G C 0 0) 0 0 7 μ 17 [some (.ref (gad G 0 12)), some (.int a1), none, none, none, none, none] [.int x2, .ref (gad G 0 12)] (J17 x2)) (fun x2 => ?_) (fun J17 hJ17 => ?_)
  · skip
    refine aw_putIN (pc := 17) hC inX10 (v0 (j := 12) (by decide)) rfl rfl 0 (by decide) kw1314 rfl tyX10 tyX10_ok nmX10 rfl rfl (Nat.le_of_ble_eq_true rfl) rfl dX10_spread_17 (fun μ3 => ?_)
    refine aw_aload_n (pc := 20) (i := 0) hC dX10_spread_20 rfl rfl ?_
    refine aw_get (pc := 21) hC inX10 (v0 (j := 12) (by decide)) rfl rfl 0 (by decide) kw1314 rfl rfl dX10_spread_21 ?_
    refine aw_if_le (pc := 24) (tgt := 29) hC dX10_spread_24 (by decide) (fun _ => ?_) (fun _ => ?_)
    · skip
      refine aw_aload_n (pc := 29) (i := 0) hC dX10_spread_29 rfl rfl ?_
      refine aw_callVV (pc := 30) (As := []) hC mb_X10_putsAside kw1401 (by decide) (c_X10_putsAside G C.2.1   μ3 ) (v0 (j := 12) (by decide)) rfl rfl rfl (Nat.le_of_ble_eq_true rfl) dX10_spread_30 (fun q4 => ?_)
      refine aw_aload_n (pc := 33) (i := 0) hC dX10_spread_33 rfl rfl ?_
      refine aw_iload_n (pc := 34) (i := 1) hC dX10_spread_34 rfl rfl ?_
      refine aw_iconst (pc := 35) (v := 0) hC dX10_spread_35 ic0 ?_
      refine aw_callVI (pc := 36) (As := [.int a1, .int 0]) hC mb_X10_goes kw1659 (by decide) (c_X10_goes G C.2.1   q4 a1 0) (v0 (j := 12) (by decide)) rfl rfl rfl (Nat.le_of_ble_eq_true rfl) dX10_spread_36 (fun q5 => ?_)
      refine aw_istore_n (pc := 39) (i := 2) hC dX10_spread_39 rfl rfl (by decide) ?_
      refine aw_bipush (pc := 40) (v := 99) hC dX10_spread_40 bc99 ?_
      refine aw_istore_n (pc := 42) (i := 3) hC dX10_spread_42 rfl rfl (by decide) ?_
      refine aw_iconst (pc := 43) (v := 0) hC dX10_spread_43 ic0 ?_
      refine aw_istore (pc := 44) hC dX10_spread_44 rfl (by decide) ?_
      refine aw_iconst (pc := 46) (v := 0) hC dX10_spread_46 ic0 ?_
      refine aw_istore (pc := 47) hC dX10_spread_47 rfl (by decide) ?_
      refine aw_iconst (pc := 49) (v := 0) hC dX10_spread_49 ic0 ?_
      refine aw_istore (pc := 50) hC dX10_spread_50 rfl (by decide) ?_
      have hL52 : ∀ (k110 : Int32 → Int32 → Int32 → Option (Int32 × Mem)) (hk110 : ∀ (x6 : Int32) (x7 : Int32) (x8 : Int32), AW G C (qI G C 0 0) 0 0 7 q5.2 110 [some (.ref (gad G 0 12)), none, none, some (.int x6), some (.int x7), some (.int x8), none] [] (k110 x6 x7 x8)) (n : Nat) (x9 : Int32) (x10 : Int32) (x11 : Int32) (x12 : Int32), AW G C (qI G C 0 0) 0 0 7 q5.2 52 [some (.ref (gad G 0 12)), none, none, some (.int x9), some (.int x10), some (.int x11), some (.int x12)] [] (lp_X10_spread_52 q5 k110 n x9 x10 x11 x12) := by
        intro k110 hk110 n
        induction n with
        | zero => intro x9 x10 x11 x12; exact aw_none
        | succ n ih =>
          intro x9 x10 x11 x12
          rw [lp_X10_spread_52]
          refine aw_iload (pc := 52) hC dX10_spread_52 rfl ?_
          refine aw_aload_n (pc := 54) (i := 0) hC dX10_spread_54 rfl rfl ?_
          refine aw_get (pc := 55) hC inX10 (v0 (j := 12) (by decide)) rfl rfl 1 (by decide) kw1315 rfl rfl dX10_spread_55 ?_
          refine aw_iconst (pc := 58) (v := 3) hC dX10_spread_58 ic3 ?_
          refine aw_iaload (pc := 59) hC (v0 (j := 13) (by decide)) rfl dX10_spread_59 ?_
          refine aw_icmp_ge (pc := 60) (tgt := 110) hC dX10_spread_60 (by decide) (fun _ => ?_) (fun _ => ?_)
          · skip
            exact aw_drop [6] (hk110 x9 x10 x11)
          · skip
            refine aw_aload_n (pc := 63) (i := 0) hC dX10_spread_63 rfl rfl ?_
            refine aw_iload (pc := 64) hC dX10_spread_64 rfl ?_
            refine aw_callVR (pc := 66) (As := [.int x12]) hC mb_X10_isHere kw1558 (by decide) (c_X10_isHere G C.2.1   q5.2 x12) (v0 (j := 12) (by decide)) rfl rfl rfl (Nat.le_of_ble_eq_true rfl) dX10_spread_66 (fun q13 => ?_)
            refine aw_if_ne (pc := 69) (tgt := 75) hC dX10_spread_69 (by decide) (fun _ => ?_) (fun _ => ?_)
            · skip
              refine aw_goto (pc := 72) (tgt := 104) hC dX10_spread_72 (by decide) ?_
              refine aw_iinc (pc := 104) (v := x12 + 1) hC dX10_spread_104 rfl (congrArg (HAdd.hAdd _) ic1) rfl (by decide) ?_
              refine aw_goto (pc := 107) (tgt := 52) hC dX10_spread_107 (by decide) ?_
              exact ih x9 x10 x11 (x12 + 1)
            · skip
              refine aw_iconst (pc := 75) (v := 1) hC dX10_spread_75 ic1 ?_
              refine aw_istore (pc := 76) hC dX10_spread_76 rfl (by decide) ?_
              refine aw_iload_n (pc := 78) (i := 3) hC dX10_spread_78 rfl rfl ?_
              refine aw_aload_n (pc := 79) (i := 0) hC dX10_spread_79 rfl rfl ?_
              refine aw_iload (pc := 80) hC dX10_spread_80 rfl ?_
              refine aw_iconst (pc := 82) (v := 2) hC dX10_spread_82 ic2 ?_
              refine aw_callVR (pc := 83) (As := [.int x12, .int 2]) hC mb_X10_of kw1539 (by decide) (c_X10_of G C.2.1   q5.2 x12 2) (v0 (j := 12) (by decide)) rfl rfl rfl (Nat.le_of_ble_eq_true rfl) dX10_spread_83 (fun q14 => ?_)
              refine aw_callSR (pc := 86) (As := [.int x9, .int q14]) hC ms_X10_lesser kw1648 (by decide) (c_X10_lesser G C.2.1   q5.2 x9 q14) rfl (Nat.le_of_ble_eq_true rfl) dX10_spread_86 (fun q15 => ?_)
              refine aw_istore_n (pc := 89) (i := 3) hC dX10_spread_89 rfl rfl (by decide) ?_
              refine aw_iload (pc := 90) hC dX10_spread_90 rfl ?_
              refine aw_aload_n (pc := 92) (i := 0) hC dX10_spread_92 rfl rfl ?_
              refine aw_iload (pc := 93) hC dX10_spread_93 rfl ?_
              refine aw_iconst (pc := 95) (v := 2) hC dX10_spread_95 ic2 ?_
              refine aw_callVR (pc := 96) (As := [.int x12, .int 2]) hC mb_X10_of kw1539 (by decide) (c_X10_of G C.2.1   q5.2 x12 2) (v0 (j := 12) (by decide)) rfl rfl rfl (Nat.le_of_ble_eq_true rfl) dX10_spread_96 (fun q16 => ?_)
              refine aw_callSR (pc := 99) (As := [.int x10, .int q16]) hC ms_X10_greater kw1663 (by decide) (c_X10_greater G C.2.1   q5.2 x10 q16) rfl (Nat.le_of_ble_eq_true rfl) dX10_spread_99 (fun q17 => ?_)
              refine aw_istore (pc := 102) hC dX10_spread_102 rfl (by decide) ?_
              refine aw_iinc (pc := 104) (v := x12 + 1) hC dX10_spread_104 rfl (congrArg (HAdd.hAdd _) ic1) rfl (by decide) ?_
              refine aw_goto (pc := 107) (tgt := 52) hC dX10_spread_107 (by decide) ?_
              exact ih q15 q17 1 (x12 + 1)
      refine aw_drop [1, 2] (hL52 (fun (x6 : Int32) (x7 : Int32) (x8 : Int32) => (f_X10_comesBack q5.2).bind fun (q18 : Mem) => if x8 = 0 then (some (0, q18)) else (some ((x7 - x6), q18))) (fun x6 x7 x8 => ?_) 4096 99 0 0 0)
      · skip
        refine aw_aload_n (pc := 110) (i := 0) hC dX10_spread_110 rfl rfl ?_
        refine aw_callVV (pc := 111) (As := []) hC mb_X10_comesBack kw1519 (by decide) (c_X10_comesBack G C.2.1   q5.2 ) (v0 (j := 12) (by decide)) rfl rfl rfl (Nat.le_of_ble_eq_true rfl) dX10_spread_111 (fun q18 => ?_)
        refine aw_iload (pc := 114) hC dX10_spread_114 rfl ?_
        refine aw_if_eq (pc := 116) (tgt := 126) hC dX10_spread_116 (by decide) (fun _ => ?_) (fun _ => ?_)
        · skip
          refine aw_iconst (pc := 126) (v := 0) hC dX10_spread_126 ic0 ?_
          exact aw_iret hC dX10_spread_127
        · skip
          refine aw_iload (pc := 119) hC dX10_spread_119 rfl ?_
          refine aw_iload_n (pc := 121) (i := 3) hC dX10_spread_121 rfl rfl ?_
          refine aw_isub (pc := 122) hC dX10_spread_122 ?_
          refine aw_goto (pc := 123) (tgt := 127) hC dX10_spread_123 (by decide) ?_
          exact aw_iret hC dX10_spread_127
    · skip
      refine aw_iconst (pc := 27) (v := 0) hC dX10_spread_27 ic0 ?_
      exact aw_iret hC dX10_spread_28
  · skip
    refine aw_if_ne (pc := 9) (tgt := 16) hC dX10_spread_9 (by decide) (fun _ => ?_) (fun _ => ?_)
    · skip
      refine aw_iconst (pc := 12) (v := 1) hC dX10_spread_12 ic1 ?_
      refine aw_goto (pc := 13) (tgt := 17) hC dX10_spread_13 (by decide) ?_
      exact hJ17 1
    · skip
      refine aw_iconst (pc := 16) (v := 0) hC dX10_spread_16 ic0 ?_
      exact hJ17 0
theorem dX10_mutual_0 : decode cX10_mutual 0 = .ok (.aload_n 0, 1) := by decide +kernel
theorem dX10_mutual_1 : decode cX10_mutual 1 = .ok (.iconst 0, 1) := by decide +kernel
theorem dX10_mutual_2 : decode cX10_mutual 2 = .ok (.putfield 42, 3) := by decide +kernel
theorem dX10_mutual_5 : decode cX10_mutual 5 = .ok (.iconst 0, 1) := by decide +kernel
theorem dX10_mutual_6 : decode cX10_mutual 6 = .ok (.istore_n 1, 1) := by decide +kernel
theorem dX10_mutual_7 : decode cX10_mutual 7 = .ok (.iconst 0, 1) := by decide +kernel
theorem dX10_mutual_8 : decode cX10_mutual 8 = .ok (.istore_n 2, 1) := by decide +kernel
theorem dX10_mutual_9 : decode cX10_mutual 9 = .ok (.iload_n 2, 1) := by decide +kernel
theorem dX10_mutual_10 : decode cX10_mutual 10 = .ok (.aload_n 0, 1) := by decide +kernel
theorem dX10_mutual_11 : decode cX10_mutual 11 = .ok (.getfield 7, 3) := by decide +kernel
theorem dX10_mutual_14 : decode cX10_mutual 14 = .ok (.iconst 3, 1) := by decide +kernel
theorem dX10_mutual_15 : decode cX10_mutual 15 = .ok (.iaload, 1) := by decide +kernel
theorem dX10_mutual_16 : decode cX10_mutual 16 = .ok (.if_icmp .ge 81, 3) := by decide +kernel
theorem dX10_mutual_19 : decode cX10_mutual 19 = .ok (.iload_n 2, 1) := by decide +kernel
theorem dX10_mutual_20 : decode cX10_mutual 20 = .ok (.iconst 1, 1) := by decide +kernel
theorem dX10_mutual_21 : decode cX10_mutual 21 = .ok (.iadd, 1) := by decide +kernel
theorem dX10_mutual_22 : decode cX10_mutual 22 = .ok (.istore_n 3, 1) := by decide +kernel
theorem dX10_mutual_23 : decode cX10_mutual 23 = .ok (.iload_n 3, 1) := by decide +kernel
theorem dX10_mutual_24 : decode cX10_mutual 24 = .ok (.aload_n 0, 1) := by decide +kernel
theorem dX10_mutual_25 : decode cX10_mutual 25 = .ok (.getfield 7, 3) := by decide +kernel
theorem dX10_mutual_28 : decode cX10_mutual 28 = .ok (.iconst 3, 1) := by decide +kernel
theorem dX10_mutual_29 : decode cX10_mutual 29 = .ok (.iaload, 1) := by decide +kernel
theorem dX10_mutual_30 : decode cX10_mutual 30 = .ok (.if_icmp .ge 61, 3) := by decide +kernel
theorem dX10_mutual_33 : decode cX10_mutual 33 = .ok (.iload_n 1, 1) := by decide +kernel
theorem dX10_mutual_34 : decode cX10_mutual 34 = .ok (.aload_n 0, 1) := by decide +kernel
theorem dX10_mutual_35 : decode cX10_mutual 35 = .ok (.iload_n 2, 1) := by decide +kernel
theorem dX10_mutual_36 : decode cX10_mutual 36 = .ok (.invokevirtual 236, 3) := by decide +kernel
theorem dX10_mutual_39 : decode cX10_mutual 39 = .ok (.ifCond .eq 43, 3) := by decide +kernel
theorem dX10_mutual_42 : decode cX10_mutual 42 = .ok (.aload_n 0, 1) := by decide +kernel
theorem dX10_mutual_43 : decode cX10_mutual 43 = .ok (.iload_n 3, 1) := by decide +kernel
theorem dX10_mutual_44 : decode cX10_mutual 44 = .ok (.invokevirtual 236, 3) := by decide +kernel
theorem dX10_mutual_47 : decode cX10_mutual 47 = .ok (.ifCond .eq 35, 3) := by decide +kernel
theorem dX10_mutual_50 : decode cX10_mutual 50 = .ok (.aload_n 0, 1) := by decide +kernel
theorem dX10_mutual_51 : decode cX10_mutual 51 = .ok (.iload_n 2, 1) := by decide +kernel
theorem dX10_mutual_52 : decode cX10_mutual 52 = .ok (.aload_n 0, 1) := by decide +kernel
theorem dX10_mutual_53 : decode cX10_mutual 53 = .ok (.iload_n 3, 1) := by decide +kernel
theorem dX10_mutual_54 : decode cX10_mutual 54 = .ok (.iconst 0, 1) := by decide +kernel
theorem dX10_mutual_55 : decode cX10_mutual 55 = .ok (.invokevirtual 49, 3) := by decide +kernel
theorem dX10_mutual_58 : decode cX10_mutual 58 = .ok (.invokevirtual 239, 3) := by decide +kernel
theorem dX10_mutual_61 : decode cX10_mutual 61 = .ok (.ifCond .eq 21, 3) := by decide +kernel
theorem dX10_mutual_64 : decode cX10_mutual 64 = .ok (.aload_n 0, 1) := by decide +kernel
theorem dX10_mutual_65 : decode cX10_mutual 65 = .ok (.iload_n 3, 1) := by decide +kernel
theorem dX10_mutual_66 : decode cX10_mutual 66 = .ok (.aload_n 0, 1) := by decide +kernel
theorem dX10_mutual_67 : decode cX10_mutual 67 = .ok (.iload_n 2, 1) := by decide +kernel
theorem dX10_mutual_68 : decode cX10_mutual 68 = .ok (.iconst 0, 1) := by decide +kernel
theorem dX10_mutual_69 : decode cX10_mutual 69 = .ok (.invokevirtual 49, 3) := by decide +kernel
theorem dX10_mutual_72 : decode cX10_mutual 72 = .ok (.invokevirtual 239, 3) := by decide +kernel
theorem dX10_mutual_75 : decode cX10_mutual 75 = .ok (.ifCond .eq 7, 3) := by decide +kernel
theorem dX10_mutual_78 : decode cX10_mutual 78 = .ok (.iconst 1, 1) := by decide +kernel
theorem dX10_mutual_79 : decode cX10_mutual 79 = .ok (.goto 4, 3) := by decide +kernel
theorem dX10_mutual_82 : decode cX10_mutual 82 = .ok (.iconst 0, 1) := by decide +kernel
theorem dX10_mutual_83 : decode cX10_mutual 83 = .ok (.iadd, 1) := by decide +kernel
theorem dX10_mutual_84 : decode cX10_mutual 84 = .ok (.istore_n 1, 1) := by decide +kernel
theorem dX10_mutual_85 : decode cX10_mutual 85 = .ok (.iinc 3 1, 3) := by decide +kernel
theorem dX10_mutual_88 : decode cX10_mutual 88 = .ok (.goto (-65), 3) := by decide +kernel
theorem dX10_mutual_91 : decode cX10_mutual 91 = .ok (.iinc 2 1, 3) := by decide +kernel
theorem dX10_mutual_94 : decode cX10_mutual 94 = .ok (.goto (-85), 3) := by decide +kernel
theorem dX10_mutual_97 : decode cX10_mutual 97 = .ok (.iload_n 1, 1) := by decide +kernel
theorem dX10_mutual_98 : decode cX10_mutual 98 = .ok (.ireturn, 1) := by decide +kernel
def lp_X10_mutual_23 (μ1 : Mem) (x3 : Int32) (k91 : Int32 → Option (Int32 × Mem)) : Nat → Int32 → Int32 → Option (Int32 × Mem)
  | 0, _, _ => none
  | n + 1, x5, x6 => ix 3 704 (if (μ1 0 13 (Int32.toNatClampNeg 3)) ≤ x6 then (k91 x5) else ((f_X10_isHere μ1 x3).bind fun (q7 : Int32) => if q7 = 0 then (lp_X10_mutual_23 μ1 x3 k91 n (x5 + 0) (x6 + 1)) else ((f_X10_isHere μ1 x6).bind fun (q8 : Int32) => if q8 = 0 then (lp_X10_mutual_23 μ1 x3 k91 n (x5 + 0) (x6 + 1)) else ((f_X10_of μ1 x6 0).bind fun (q9 : Int32) => (f_X10_sees μ1 x3 q9).bind fun (q10 : Int32) => if q10 = 0 then (lp_X10_mutual_23 μ1 x3 k91 n (x5 + 0) (x6 + 1)) else ((f_X10_of μ1 x3 0).bind fun (q11 : Int32) => (f_X10_sees μ1 x6 q11).bind fun (q12 : Int32) => if q12 = 0 then (lp_X10_mutual_23 μ1 x3 k91 n (x5 + 0) (x6 + 1)) else (lp_X10_mutual_23 μ1 x3 k91 n (x5 + 1) (x6 + 1)))))))
def lp_X10_mutual_9 (μ1 : Mem) : Nat → Int32 → Int32 → Option (Int32 × Mem)
  | 0, _, _ => none
  | n + 1, x2, x3 => ix 3 704 (if (μ1 0 13 (Int32.toNatClampNeg 3)) ≤ x3 then (some (x2, μ1)) else (lp_X10_mutual_23 μ1 x3 (fun (x4 : Int32) => lp_X10_mutual_9 μ1 n x4 (x3 + 1)) 4096 x2 (x3 + 1)))
def f_X10_mutual (μ : Mem) : Option (Int32 × Mem) := nm (upm μ 0 12 0 0) fun (μ1 : Mem) => lp_X10_mutual_9 μ1 4096 0 0
set_option maxHeartbeats 4000000 in
set_option maxRecDepth 100000 in
theorem c_X10_mutual (G : GG) (l : Launch) (μ : Mem) : CI G l yX10_mutual (.code yX10_mutual cX10_mutual 4 (some .int)) 5 [.ref (gad G 0 12)] μ (f_X10_mutual μ) := by
  refine CI.of (own := "SaturdayKeepModel") (L0 := [some (.ref (gad G 0 12)), none, none, none]) rfl rfl rfl (Nat.le_of_ble_eq_true rfl) (fun C hl hC => ?_)
  subst hl
  delta f_X10_mutual
  refine aw_aload_n (pc := 0) (i := 0) hC dX10_mutual_0 rfl rfl ?_
  refine aw_iconst (pc := 1) (v := 0) hC dX10_mutual_1 ic0 ?_
  refine aw_putIN (pc := 2) hC inX10 (v0 (j := 12) (by decide)) rfl rfl 0 (by decide) kw1314 rfl tyX10 tyX10_ok nmX10 rfl rfl (Nat.le_of_ble_eq_true rfl) rfl dX10_mutual_2 (fun μ1 => ?_)
  refine aw_iconst (pc := 5) (v := 0) hC dX10_mutual_5 ic0 ?_
  refine aw_istore_n (pc := 6) (i := 1) hC dX10_mutual_6 rfl rfl (by decide) ?_
  refine aw_iconst (pc := 7) (v := 0) hC dX10_mutual_7 ic0 ?_
  refine aw_istore_n (pc := 8) (i := 2) hC dX10_mutual_8 rfl rfl (by decide) ?_
  have hL9 : ∀ (n : Nat) (x2 : Int32) (x3 : Int32), AW G C (qI G C 0 0) 0 0 4 μ1 9 [some (.ref (gad G 0 12)), some (.int x2), some (.int x3), none] [] (lp_X10_mutual_9 μ1 n x2 x3) := by
    intro n
    induction n with
    | zero => intro x2 x3; exact aw_none
    | succ n ih =>
      intro x2 x3
      rw [lp_X10_mutual_9]
      refine aw_iload_n (pc := 9) (i := 2) hC dX10_mutual_9 rfl rfl ?_
      refine aw_aload_n (pc := 10) (i := 0) hC dX10_mutual_10 rfl rfl ?_
      refine aw_get (pc := 11) hC inX10 (v0 (j := 12) (by decide)) rfl rfl 1 (by decide) kw1315 rfl rfl dX10_mutual_11 ?_
      refine aw_iconst (pc := 14) (v := 3) hC dX10_mutual_14 ic3 ?_
      refine aw_iaload (pc := 15) hC (v0 (j := 13) (by decide)) rfl dX10_mutual_15 ?_
      refine aw_icmp_ge (pc := 16) (tgt := 97) hC dX10_mutual_16 (by decide) (fun _ => ?_) (fun _ => ?_)
      · skip
        refine aw_iload_n (pc := 97) (i := 1) hC dX10_mutual_97 rfl rfl ?_
        exact aw_iret hC dX10_mutual_98
      · skip
        refine aw_iload_n (pc := 19) (i := 2) hC dX10_mutual_19 rfl rfl ?_
        refine aw_iconst (pc := 20) (v := 1) hC dX10_mutual_20 ic1 ?_
        refine aw_iadd (pc := 21) hC dX10_mutual_21 ?_
        refine aw_istore_n (pc := 22) (i := 3) hC dX10_mutual_22 rfl rfl (by decide) ?_
        have hL23 : ∀ (k91 : Int32 → Option (Int32 × Mem)) (hk91 : ∀ (x4 : Int32), AW G C (qI G C 0 0) 0 0 4 μ1 91 [some (.ref (gad G 0 12)), some (.int x4), some (.int x3), none] [] (k91 x4)) (n : Nat) (x5 : Int32) (x6 : Int32), AW G C (qI G C 0 0) 0 0 4 μ1 23 [some (.ref (gad G 0 12)), some (.int x5), some (.int x3), some (.int x6)] [] (lp_X10_mutual_23 μ1 x3 k91 n x5 x6) := by
          intro k91 hk91 n
          induction n with
          | zero => intro x5 x6; exact aw_none
          | succ n ih =>
            intro x5 x6
            rw [lp_X10_mutual_23]
            refine aw_iload_n (pc := 23) (i := 3) hC dX10_mutual_23 rfl rfl ?_
            refine aw_aload_n (pc := 24) (i := 0) hC dX10_mutual_24 rfl rfl ?_
            refine aw_get (pc := 25) hC inX10 (v0 (j := 12) (by decide)) rfl rfl 1 (by decide) kw1315 rfl rfl dX10_mutual_25 ?_
            refine aw_iconst (pc := 28) (v := 3) hC dX10_mutual_28 ic3 ?_
            refine aw_iaload (pc := 29) hC (v0 (j := 13) (by decide)) rfl dX10_mutual_29 ?_
            refine aw_icmp_ge (pc := 30) (tgt := 91) hC dX10_mutual_30 (by decide) (fun _ => ?_) (fun _ => ?_)
            · skip
              exact aw_drop [3] (hk91 x5)
            · skip
              refine aw_iload_n (pc := 33) (i := 1) hC dX10_mutual_33 rfl rfl ?_
              refine aw_aload_n (pc := 34) (i := 0) hC dX10_mutual_34 rfl rfl ?_
              refine aw_iload_n (pc := 35) (i := 2) hC dX10_mutual_35 rfl rfl ?_
              refine aw_callVR (pc := 36) (As := [.int x3]) hC mb_X10_isHere kw1558 (by decide) (c_X10_isHere G C.2.1   μ1 x3) (v0 (j := 12) (by decide)) rfl rfl rfl (Nat.le_of_ble_eq_true rfl) dX10_mutual_36 (fun q7 => ?_)
              refine aw_if_eq (pc := 39) (tgt := 82) hC dX10_mutual_39 (by decide) (fun _ => ?_) (fun _ => ?_)
              · skip
                refine aw_iconst (pc := 82) (v := 0) hC dX10_mutual_82 ic0 ?_
                refine aw_iadd (pc := 83) hC dX10_mutual_83 ?_
                refine aw_istore_n (pc := 84) (i := 1) hC dX10_mutual_84 rfl rfl (by decide) ?_
                refine aw_iinc (pc := 85) (v := x6 + 1) hC dX10_mutual_85 rfl (congrArg (HAdd.hAdd _) ic1) rfl (by decide) ?_
                refine aw_goto (pc := 88) (tgt := 23) hC dX10_mutual_88 (by decide) ?_
                exact ih (x5 + 0) (x6 + 1)
              · skip
                refine aw_aload_n (pc := 42) (i := 0) hC dX10_mutual_42 rfl rfl ?_
                refine aw_iload_n (pc := 43) (i := 3) hC dX10_mutual_43 rfl rfl ?_
                refine aw_callVR (pc := 44) (As := [.int x6]) hC mb_X10_isHere kw1558 (by decide) (c_X10_isHere G C.2.1   μ1 x6) (v0 (j := 12) (by decide)) rfl rfl rfl (Nat.le_of_ble_eq_true rfl) dX10_mutual_44 (fun q8 => ?_)
                refine aw_if_eq (pc := 47) (tgt := 82) hC dX10_mutual_47 (by decide) (fun _ => ?_) (fun _ => ?_)
                · skip
                  refine aw_iconst (pc := 82) (v := 0) hC dX10_mutual_82 ic0 ?_
                  refine aw_iadd (pc := 83) hC dX10_mutual_83 ?_
                  refine aw_istore_n (pc := 84) (i := 1) hC dX10_mutual_84 rfl rfl (by decide) ?_
                  refine aw_iinc (pc := 85) (v := x6 + 1) hC dX10_mutual_85 rfl (congrArg (HAdd.hAdd _) ic1) rfl (by decide) ?_
                  refine aw_goto (pc := 88) (tgt := 23) hC dX10_mutual_88 (by decide) ?_
                  exact ih (x5 + 0) (x6 + 1)
                · skip
                  refine aw_aload_n (pc := 50) (i := 0) hC dX10_mutual_50 rfl rfl ?_
                  refine aw_iload_n (pc := 51) (i := 2) hC dX10_mutual_51 rfl rfl ?_
                  refine aw_aload_n (pc := 52) (i := 0) hC dX10_mutual_52 rfl rfl ?_
                  refine aw_iload_n (pc := 53) (i := 3) hC dX10_mutual_53 rfl rfl ?_
                  refine aw_iconst (pc := 54) (v := 0) hC dX10_mutual_54 ic0 ?_
                  refine aw_callVR (pc := 55) (As := [.int x6, .int 0]) hC mb_X10_of kw1539 (by decide) (c_X10_of G C.2.1   μ1 x6 0) (v0 (j := 12) (by decide)) rfl rfl rfl (Nat.le_of_ble_eq_true rfl) dX10_mutual_55 (fun q9 => ?_)
                  refine aw_callVR (pc := 58) (As := [.int x3, .int q9]) hC mb_X10_sees kw1566 (by decide) (c_X10_sees G C.2.1   μ1 x3 q9) (v0 (j := 12) (by decide)) rfl rfl rfl (Nat.le_of_ble_eq_true rfl) dX10_mutual_58 (fun q10 => ?_)
                  refine aw_if_eq (pc := 61) (tgt := 82) hC dX10_mutual_61 (by decide) (fun _ => ?_) (fun _ => ?_)
                  · skip
                    refine aw_iconst (pc := 82) (v := 0) hC dX10_mutual_82 ic0 ?_
                    refine aw_iadd (pc := 83) hC dX10_mutual_83 ?_
                    refine aw_istore_n (pc := 84) (i := 1) hC dX10_mutual_84 rfl rfl (by decide) ?_
                    refine aw_iinc (pc := 85) (v := x6 + 1) hC dX10_mutual_85 rfl (congrArg (HAdd.hAdd _) ic1) rfl (by decide) ?_
                    refine aw_goto (pc := 88) (tgt := 23) hC dX10_mutual_88 (by decide) ?_
                    exact ih (x5 + 0) (x6 + 1)
                  · skip
                    refine aw_aload_n (pc := 64) (i := 0) hC dX10_mutual_64 rfl rfl ?_
                    refine aw_iload_n (pc := 65) (i := 3) hC dX10_mutual_65 rfl rfl ?_
                    refine aw_aload_n (pc := 66) (i := 0) hC dX10_mutual_66 rfl rfl ?_
                    refine aw_iload_n (pc := 67) (i := 2) hC dX10_mutual_67 rfl rfl ?_
                    refine aw_iconst (pc := 68) (v := 0) hC dX10_mutual_68 ic0 ?_
                    refine aw_callVR (pc := 69) (As := [.int x3, .int 0]) hC mb_X10_of kw1539 (by decide) (c_X10_of G C.2.1   μ1 x3 0) (v0 (j := 12) (by decide)) rfl rfl rfl (Nat.le_of_ble_eq_true rfl) dX10_mutual_69 (fun q11 => ?_)
                    refine aw_callVR (pc := 72) (As := [.int x6, .int q11]) hC mb_X10_sees kw1566 (by decide) (c_X10_sees G C.2.1   μ1 x6 q11) (v0 (j := 12) (by decide)) rfl rfl rfl (Nat.le_of_ble_eq_true rfl) dX10_mutual_72 (fun q12 => ?_)
                    refine aw_if_eq (pc := 75) (tgt := 82) hC dX10_mutual_75 (by decide) (fun _ => ?_) (fun _ => ?_)
                    · skip
                      refine aw_iconst (pc := 82) (v := 0) hC dX10_mutual_82 ic0 ?_
                      refine aw_iadd (pc := 83) hC dX10_mutual_83 ?_
                      refine aw_istore_n (pc := 84) (i := 1) hC dX10_mutual_84 rfl rfl (by decide) ?_
                      refine aw_iinc (pc := 85) (v := x6 + 1) hC dX10_mutual_85 rfl (congrArg (HAdd.hAdd _) ic1) rfl (by decide) ?_
                      refine aw_goto (pc := 88) (tgt := 23) hC dX10_mutual_88 (by decide) ?_
                      exact ih (x5 + 0) (x6 + 1)
                    · skip
                      refine aw_iconst (pc := 78) (v := 1) hC dX10_mutual_78 ic1 ?_
                      refine aw_goto (pc := 79) (tgt := 83) hC dX10_mutual_79 (by decide) ?_
                      refine aw_iadd (pc := 83) hC dX10_mutual_83 ?_
                      refine aw_istore_n (pc := 84) (i := 1) hC dX10_mutual_84 rfl rfl (by decide) ?_
                      refine aw_iinc (pc := 85) (v := x6 + 1) hC dX10_mutual_85 rfl (congrArg (HAdd.hAdd _) ic1) rfl (by decide) ?_
                      refine aw_goto (pc := 88) (tgt := 23) hC dX10_mutual_88 (by decide) ?_
                      exact ih (x5 + 1) (x6 + 1)
        refine hL23 (fun (x4 : Int32) => lp_X10_mutual_9 μ1 n x4 (x3 + 1)) (fun x4 => ?_) 4096 x2 (x3 + 1)
        · skip
          refine aw_iinc (pc := 91) (v := x3 + 1) hC dX10_mutual_91 rfl (congrArg (HAdd.hAdd _) ic1) rfl (by decide) ?_
          refine aw_goto (pc := 94) (tgt := 9) hC dX10_mutual_94 (by decide) ?_
          exact ih x4 (x3 + 1)
  exact hL9 4096 0 0
theorem dX10_trial_0 : decode cX10_trial 0 = .ok (.aload_n 0, 1) := by decide +kernel
theorem dX10_trial_1 : decode cX10_trial 1 = .ok (.iload_n 1, 1) := by decide +kernel
theorem dX10_trial_2 : decode cX10_trial 2 = .ok (.iconst 0, 1) := by decide +kernel
theorem dX10_trial_3 : decode cX10_trial 3 = .ok (.bipush 60, 2) := by decide +kernel
theorem dX10_trial_5 : decode cX10_trial 5 = .ok (.invokestatic 45, 3) := by decide +kernel
theorem dX10_trial_8 : decode cX10_trial 8 = .ok (.ifCond .ne 7, 3) := by decide +kernel
theorem dX10_trial_11 : decode cX10_trial 11 = .ok (.iconst 1, 1) := by decide +kernel
theorem dX10_trial_12 : decode cX10_trial 12 = .ok (.goto 4, 3) := by decide +kernel
theorem dX10_trial_15 : decode cX10_trial 15 = .ok (.iconst 0, 1) := by decide +kernel
theorem dX10_trial_16 : decode cX10_trial 16 = .ok (.putfield 42, 3) := by decide +kernel
theorem dX10_trial_19 : decode cX10_trial 19 = .ok (.aload_n 0, 1) := by decide +kernel
theorem dX10_trial_20 : decode cX10_trial 20 = .ok (.getfield 42, 3) := by decide +kernel
theorem dX10_trial_23 : decode cX10_trial 23 = .ok (.ifCond .le 5, 3) := by decide +kernel
theorem dX10_trial_26 : decode cX10_trial 26 = .ok (.iconst 0, 1) := by decide +kernel
theorem dX10_trial_27 : decode cX10_trial 27 = .ok (.ireturn, 1) := by decide +kernel
theorem dX10_trial_28 : decode cX10_trial 28 = .ok (.aload_n 0, 1) := by decide +kernel
theorem dX10_trial_29 : decode cX10_trial 29 = .ok (.invokevirtual 159, 3) := by decide +kernel
theorem dX10_trial_32 : decode cX10_trial 32 = .ok (.aload_n 0, 1) := by decide +kernel
theorem dX10_trial_33 : decode cX10_trial 33 = .ok (.iload_n 1, 1) := by decide +kernel
theorem dX10_trial_34 : decode cX10_trial 34 = .ok (.iconst 1, 1) := by decide +kernel
theorem dX10_trial_35 : decode cX10_trial 35 = .ok (.invokevirtual 288, 3) := by decide +kernel
theorem dX10_trial_38 : decode cX10_trial 38 = .ok (.istore_n 3, 1) := by decide +kernel
theorem dX10_trial_39 : decode cX10_trial 39 = .ok (.iload_n 2, 1) := by decide +kernel
theorem dX10_trial_40 : decode cX10_trial 40 = .ok (.ifCond .eq 10, 3) := by decide +kernel
theorem dX10_trial_43 : decode cX10_trial 43 = .ok (.aload_n 0, 1) := by decide +kernel
theorem dX10_trial_44 : decode cX10_trial 44 = .ok (.invokevirtual 336, 3) := by decide +kernel
theorem dX10_trial_47 : decode cX10_trial 47 = .ok (.goto 4, 3) := by decide +kernel
theorem dX10_trial_50 : decode cX10_trial 50 = .ok (.iload_n 3, 1) := by decide +kernel
theorem dX10_trial_51 : decode cX10_trial 51 = .ok (.istore 4, 2) := by decide +kernel
theorem dX10_trial_53 : decode cX10_trial 53 = .ok (.aload_n 0, 1) := by decide +kernel
theorem dX10_trial_54 : decode cX10_trial 54 = .ok (.invokevirtual 169, 3) := by decide +kernel
theorem dX10_trial_57 : decode cX10_trial 57 = .ok (.iload 4, 2) := by decide +kernel
theorem dX10_trial_59 : decode cX10_trial 59 = .ok (.ireturn, 1) := by decide +kernel
def f_X10_trial (μ : Mem) (a1 : Int32) (a2 : Int32) : Option (Int32 × Mem) := (f_X10_isIn a1 0 60).bind fun (q1 : Int32) => nm (fun (x2 : Int32) => nm (upm μ 0 12 0 x2) fun (μ3 : Mem) => if (μ3 0 12 0) ≤ 0 then ((f_X10_putsAside μ3).bind fun (q4 : Mem) => (f_X10_goes q4 a1 1).bind fun (q5 : Int32 × Mem) => nm (fun (x6 : Int32) => (f_X10_comesBack q5.2).bind fun (q7 : Mem) => some (x6, q7)) fun (J51 : Int32 → Option (Int32 × Mem)) => if a2 = 0 then (J51 q5.1) else ((f_X10_holes q5.2).bind fun (q8 : Int32) => J51 q8)) else (some (0, μ3))) fun (J16 : Int32 → Option (Int32 × Mem)) => if q1 = 0 then (J16 1) else (J16 0)
set_option maxHeartbeats 4000000 in
set_option maxRecDepth 100000 in
theorem c_X10_trial (G : GG) (l : Launch) (μ : Mem) (a1 : Int32) (a2 : Int32) : CI G l yX10_trial (.code yX10_trial cX10_trial 5 (some .int)) 59 [.ref (gad G 0 12), .int a1, .int a2] μ (f_X10_trial μ a1 a2) := by
  refine CI.of (own := "SaturdayKeepModel") (L0 := [some (.ref (gad G 0 12)), some (.int a1), some (.int a2), none, none]) rfl rfl rfl (Nat.le_of_ble_eq_true rfl) (fun C hl hC => ?_)
  subst hl
  delta f_X10_trial
  refine aw_aload_n (pc := 0) (i := 0) hC dX10_trial_0 rfl rfl ?_
  refine aw_iload_n (pc := 1) (i := 1) hC dX10_trial_1 rfl rfl ?_
  refine aw_iconst (pc := 2) (v := 0) hC dX10_trial_2 ic0 ?_
  refine aw_bipush (pc := 3) (v := 60) hC dX10_trial_3 bc60 ?_
  refine aw_callSR (pc := 5) (As := [.int a1, .int 0, .int 60]) hC ms_X10_isIn kw1394 (by decide) (c_X10_isIn G C.2.1   μ a1 0 60) rfl (Nat.le_of_ble_eq_true rfl) dX10_trial_5 (fun q1 => ?_)
  refine aw_nmJ (fun (J16 : Int32 → Option (Int32 × Mem)) => ∀ (x2 : Int32), AW G C (qI G C 0 0) 0 0 5 μ 16 [some (.ref (gad G 0 12)), some (.int a1), some (.int a2), none, none] [.int x2, .ref (gad G 0 12)] (J16 x2)) (fun x2 => ?_) (fun J16 hJ16 => ?_)
  · skip
    refine aw_putIN (pc := 16) hC inX10 (v0 (j := 12) (by decide)) rfl rfl 0 (by decide) kw1314 rfl tyX10 tyX10_ok nmX10 rfl rfl (Nat.le_of_ble_eq_true rfl) rfl dX10_trial_16 (fun μ3 => ?_)
    refine aw_aload_n (pc := 19) (i := 0) hC dX10_trial_19 rfl rfl ?_
    refine aw_get (pc := 20) hC inX10 (v0 (j := 12) (by decide)) rfl rfl 0 (by decide) kw1314 rfl rfl dX10_trial_20 ?_
    refine aw_if_le (pc := 23) (tgt := 28) hC dX10_trial_23 (by decide) (fun _ => ?_) (fun _ => ?_)
    · skip
      refine aw_aload_n (pc := 28) (i := 0) hC dX10_trial_28 rfl rfl ?_
      refine aw_callVV (pc := 29) (As := []) hC mb_X10_putsAside kw1401 (by decide) (c_X10_putsAside G C.2.1   μ3 ) (v0 (j := 12) (by decide)) rfl rfl rfl (Nat.le_of_ble_eq_true rfl) dX10_trial_29 (fun q4 => ?_)
      refine aw_aload_n (pc := 32) (i := 0) hC dX10_trial_32 rfl rfl ?_
      refine aw_iload_n (pc := 33) (i := 1) hC dX10_trial_33 rfl rfl ?_
      refine aw_iconst (pc := 34) (v := 1) hC dX10_trial_34 ic1 ?_
      refine aw_callVI (pc := 35) (As := [.int a1, .int 1]) hC mb_X10_goes kw1659 (by decide) (c_X10_goes G C.2.1   q4 a1 1) (v0 (j := 12) (by decide)) rfl rfl rfl (Nat.le_of_ble_eq_true rfl) dX10_trial_35 (fun q5 => ?_)
      refine aw_istore_n (pc := 38) (i := 3) hC dX10_trial_38 rfl rfl (by decide) ?_
      refine aw_iload_n (pc := 39) (i := 2) hC dX10_trial_39 rfl rfl ?_
      refine aw_nmJ (fun (J51 : Int32 → Option (Int32 × Mem)) => ∀ (x6 : Int32), AW G C (qI G C 0 0) 0 0 5 q5.2 51 [some (.ref (gad G 0 12)), none, none, none, none] [.int x6] (J51 x6)) (fun x6 => ?_) (fun J51 hJ51 => ?_)
      · skip
        refine aw_istore (pc := 51) hC dX10_trial_51 rfl (by decide) ?_
        refine aw_aload_n (pc := 53) (i := 0) hC dX10_trial_53 rfl rfl ?_
        refine aw_callVV (pc := 54) (As := []) hC mb_X10_comesBack kw1519 (by decide) (c_X10_comesBack G C.2.1   q5.2 ) (v0 (j := 12) (by decide)) rfl rfl rfl (Nat.le_of_ble_eq_true rfl) dX10_trial_54 (fun q7 => ?_)
        refine aw_iload (pc := 57) hC dX10_trial_57 rfl ?_
        exact aw_iret hC dX10_trial_59
      · skip
        refine aw_if_eq (pc := 40) (tgt := 50) hC dX10_trial_40 (by decide) (fun _ => ?_) (fun _ => ?_)
        · skip
          refine aw_iload_n (pc := 50) (i := 3) hC dX10_trial_50 rfl rfl ?_
          exact aw_drop [1, 2, 3] (hJ51 q5.1)
        · skip
          refine aw_aload_n (pc := 43) (i := 0) hC dX10_trial_43 rfl rfl ?_
          refine aw_callVR (pc := 44) (As := []) hC mb_X10_holes kw1850 (by decide) (c_X10_holes G C.2.1   q5.2 ) (v0 (j := 12) (by decide)) rfl rfl rfl (Nat.le_of_ble_eq_true rfl) dX10_trial_44 (fun q8 => ?_)
          refine aw_goto (pc := 47) (tgt := 51) hC dX10_trial_47 (by decide) ?_
          exact aw_drop [1, 2, 3] (hJ51 q8)
    · skip
      refine aw_iconst (pc := 26) (v := 0) hC dX10_trial_26 ic0 ?_
      exact aw_iret hC dX10_trial_27
  · skip
    refine aw_if_ne (pc := 8) (tgt := 15) hC dX10_trial_8 (by decide) (fun _ => ?_) (fun _ => ?_)
    · skip
      refine aw_iconst (pc := 11) (v := 1) hC dX10_trial_11 ic1 ?_
      refine aw_goto (pc := 12) (tgt := 16) hC dX10_trial_12 (by decide) ?_
      exact hJ16 1
    · skip
      refine aw_iconst (pc := 15) (v := 0) hC dX10_trial_15 ic0 ?_
      exact hJ16 0
theorem dX10_span_0 : decode cX10_span 0 = .ok (.aload_n 0, 1) := by decide +kernel
theorem dX10_span_1 : decode cX10_span 1 = .ok (.iload_n 1, 1) := by decide +kernel
theorem dX10_span_2 : decode cX10_span 2 = .ok (.iconst 0, 1) := by decide +kernel
theorem dX10_span_3 : decode cX10_span 3 = .ok (.bipush 60, 2) := by decide +kernel
theorem dX10_span_5 : decode cX10_span 5 = .ok (.invokestatic 45, 3) := by decide +kernel
theorem dX10_span_8 : decode cX10_span 8 = .ok (.ifCond .ne 7, 3) := by decide +kernel
theorem dX10_span_11 : decode cX10_span 11 = .ok (.iconst 1, 1) := by decide +kernel
theorem dX10_span_12 : decode cX10_span 12 = .ok (.goto 4, 3) := by decide +kernel
theorem dX10_span_15 : decode cX10_span 15 = .ok (.iconst 0, 1) := by decide +kernel
theorem dX10_span_16 : decode cX10_span 16 = .ok (.putfield 42, 3) := by decide +kernel
theorem dX10_span_19 : decode cX10_span 19 = .ok (.aload_n 0, 1) := by decide +kernel
theorem dX10_span_20 : decode cX10_span 20 = .ok (.getfield 42, 3) := by decide +kernel
theorem dX10_span_23 : decode cX10_span 23 = .ok (.ifCond .le 5, 3) := by decide +kernel
theorem dX10_span_26 : decode cX10_span 26 = .ok (.iconst 0, 1) := by decide +kernel
theorem dX10_span_27 : decode cX10_span 27 = .ok (.ireturn, 1) := by decide +kernel
theorem dX10_span_28 : decode cX10_span 28 = .ok (.aload_n 0, 1) := by decide +kernel
theorem dX10_span_29 : decode cX10_span 29 = .ok (.invokevirtual 159, 3) := by decide +kernel
theorem dX10_span_32 : decode cX10_span 32 = .ok (.iconst (-1), 1) := by decide +kernel
theorem dX10_span_33 : decode cX10_span 33 = .ok (.istore_n 3, 1) := by decide +kernel
theorem dX10_span_34 : decode cX10_span 34 = .ok (.iconst 1, 1) := by decide +kernel
theorem dX10_span_35 : decode cX10_span 35 = .ok (.istore 4, 2) := by decide +kernel
theorem dX10_span_37 : decode cX10_span 37 = .ok (.iload 4, 2) := by decide +kernel
theorem dX10_span_39 : decode cX10_span 39 = .ok (.bipush 6, 2) := by decide +kernel
theorem dX10_span_41 : decode cX10_span 41 = .ok (.if_icmp .gt 60, 3) := by decide +kernel
theorem dX10_span_44 : decode cX10_span 44 = .ok (.aload_n 0, 1) := by decide +kernel
theorem dX10_span_45 : decode cX10_span 45 = .ok (.getfield 7, 3) := by decide +kernel
theorem dX10_span_48 : decode cX10_span 48 = .ok (.bipush 15, 2) := by decide +kernel
theorem dX10_span_50 : decode cX10_span 50 = .ok (.iload 4, 2) := by decide +kernel
theorem dX10_span_52 : decode cX10_span 52 = .ok (.iastore, 1) := by decide +kernel
theorem dX10_span_53 : decode cX10_span 53 = .ok (.aload_n 0, 1) := by decide +kernel
theorem dX10_span_54 : decode cX10_span 54 = .ok (.iload_n 1, 1) := by decide +kernel
theorem dX10_span_55 : decode cX10_span 55 = .ok (.iconst 1, 1) := by decide +kernel
theorem dX10_span_56 : decode cX10_span 56 = .ok (.invokevirtual 288, 3) := by decide +kernel
theorem dX10_span_59 : decode cX10_span 59 = .ok (.istore 5, 2) := by decide +kernel
theorem dX10_span_61 : decode cX10_span 61 = .ok (.aload_n 0, 1) := by decide +kernel
theorem dX10_span_62 : decode cX10_span 62 = .ok (.invokevirtual 169, 3) := by decide +kernel
theorem dX10_span_65 : decode cX10_span 65 = .ok (.iload_n 3, 1) := by decide +kernel
theorem dX10_span_66 : decode cX10_span 66 = .ok (.iconst (-1), 1) := by decide +kernel
theorem dX10_span_67 : decode cX10_span 67 = .ok (.if_icmp .ne 8, 3) := by decide +kernel
theorem dX10_span_70 : decode cX10_span 70 = .ok (.iload 5, 2) := by decide +kernel
theorem dX10_span_72 : decode cX10_span 72 = .ok (.goto 22, 3) := by decide +kernel
theorem dX10_span_75 : decode cX10_span 75 = .ok (.iload_n 2, 1) := by decide +kernel
theorem dX10_span_76 : decode cX10_span 76 = .ok (.ifCond .eq 12, 3) := by decide +kernel
theorem dX10_span_79 : decode cX10_span 79 = .ok (.iload_n 3, 1) := by decide +kernel
theorem dX10_span_80 : decode cX10_span 80 = .ok (.iload 5, 2) := by decide +kernel
theorem dX10_span_82 : decode cX10_span 82 = .ok (.invokestatic 249, 3) := by decide +kernel
theorem dX10_span_85 : decode cX10_span 85 = .ok (.goto 9, 3) := by decide +kernel
theorem dX10_span_88 : decode cX10_span 88 = .ok (.iload_n 3, 1) := by decide +kernel
theorem dX10_span_89 : decode cX10_span 89 = .ok (.iload 5, 2) := by decide +kernel
theorem dX10_span_91 : decode cX10_span 91 = .ok (.invokestatic 243, 3) := by decide +kernel
theorem dX10_span_94 : decode cX10_span 94 = .ok (.istore_n 3, 1) := by decide +kernel
theorem dX10_span_95 : decode cX10_span 95 = .ok (.iinc 4 1, 3) := by decide +kernel
theorem dX10_span_98 : decode cX10_span 98 = .ok (.goto (-61), 3) := by decide +kernel
theorem dX10_span_101 : decode cX10_span 101 = .ok (.iload_n 3, 1) := by decide +kernel
theorem dX10_span_102 : decode cX10_span 102 = .ok (.ireturn, 1) := by decide +kernel
def lp_X10_span_37 (a1 : Int32) (a2 : Int32) : Nat → Int32 → Int32 → Mem → Option (Int32 × Mem)
  | 0, _, _, _ => none
  | n + 1, x5, x6, μ7 => if 6 < x6 then (some (x5, μ7)) else (ix 15 704 (nm (upm μ7 0 13 (Int32.toNatClampNeg 15) x6) fun (μ8 : Mem) => (f_X10_goes μ8 a1 1).bind fun (q9 : Int32 × Mem) => (f_X10_comesBack q9.2).bind fun (q10 : Mem) => if x5 = (-1) then (lp_X10_span_37 a1 a2 n q9.1 (x6 + 1) q10) else (if a2 = 0 then ((f_X10_lesser x5 q9.1).bind fun (q11 : Int32) => lp_X10_span_37 a1 a2 n q11 (x6 + 1) q10) else ((f_X10_greater x5 q9.1).bind fun (q12 : Int32) => lp_X10_span_37 a1 a2 n q12 (x6 + 1) q10))))
def f_X10_span (μ : Mem) (a1 : Int32) (a2 : Int32) : Option (Int32 × Mem) := (f_X10_isIn a1 0 60).bind fun (q1 : Int32) => nm (fun (x2 : Int32) => nm (upm μ 0 12 0 x2) fun (μ3 : Mem) => if (μ3 0 12 0) ≤ 0 then ((f_X10_putsAside μ3).bind fun (q4 : Mem) => lp_X10_span_37 a1 a2 4096 (-1) 1 q4) else (some (0, μ3))) fun (J16 : Int32 → Option (Int32 × Mem)) => if q1 = 0 then (J16 1) else (J16 0)
set_option maxHeartbeats 4000000 in
set_option maxRecDepth 100000 in
theorem c_X10_span (G : GG) (l : Launch) (μ : Mem) (a1 : Int32) (a2 : Int32) : CI G l yX10_span (.code yX10_span cX10_span 6 (some .int)) 59 [.ref (gad G 0 12), .int a1, .int a2] μ (f_X10_span μ a1 a2) := by
  refine CI.of (own := "SaturdayKeepModel") (L0 := [some (.ref (gad G 0 12)), some (.int a1), some (.int a2), none, none, none]) rfl rfl rfl (Nat.le_of_ble_eq_true rfl) (fun C hl hC => ?_)
  subst hl
  delta f_X10_span
  refine aw_aload_n (pc := 0) (i := 0) hC dX10_span_0 rfl rfl ?_
  refine aw_iload_n (pc := 1) (i := 1) hC dX10_span_1 rfl rfl ?_
  refine aw_iconst (pc := 2) (v := 0) hC dX10_span_2 ic0 ?_
  refine aw_bipush (pc := 3) (v := 60) hC dX10_span_3 bc60 ?_
  refine aw_callSR (pc := 5) (As := [.int a1, .int 0, .int 60]) hC ms_X10_isIn kw1394 (by decide) (c_X10_isIn G C.2.1   μ a1 0 60) rfl (Nat.le_of_ble_eq_true rfl) dX10_span_5 (fun q1 => ?_)
  refine aw_nmJ (fun (J16 : Int32 → Option (Int32 × Mem)) => ∀ (x2 : Int32), AW G C (qI G C 0 0) 0 0 6 μ 16 [some (.ref (gad G 0 12)), some (.int a1), some (.int a2), none, none, none] [.int x2, .ref (gad G 0 12)] (J16 x2)) (fun x2 => ?_) (fun J16 hJ16 => ?_)
  · skip
    refine aw_putIN (pc := 16) hC inX10 (v0 (j := 12) (by decide)) rfl rfl 0 (by decide) kw1314 rfl tyX10 tyX10_ok nmX10 rfl rfl (Nat.le_of_ble_eq_true rfl) rfl dX10_span_16 (fun μ3 => ?_)
    refine aw_aload_n (pc := 19) (i := 0) hC dX10_span_19 rfl rfl ?_
    refine aw_get (pc := 20) hC inX10 (v0 (j := 12) (by decide)) rfl rfl 0 (by decide) kw1314 rfl rfl dX10_span_20 ?_
    refine aw_if_le (pc := 23) (tgt := 28) hC dX10_span_23 (by decide) (fun _ => ?_) (fun _ => ?_)
    · skip
      refine aw_aload_n (pc := 28) (i := 0) hC dX10_span_28 rfl rfl ?_
      refine aw_callVV (pc := 29) (As := []) hC mb_X10_putsAside kw1401 (by decide) (c_X10_putsAside G C.2.1   μ3 ) (v0 (j := 12) (by decide)) rfl rfl rfl (Nat.le_of_ble_eq_true rfl) dX10_span_29 (fun q4 => ?_)
      refine aw_iconst (pc := 32) (v := (-1)) hC dX10_span_32 icm1 ?_
      refine aw_istore_n (pc := 33) (i := 3) hC dX10_span_33 rfl rfl (by decide) ?_
      refine aw_iconst (pc := 34) (v := 1) hC dX10_span_34 ic1 ?_
      refine aw_istore (pc := 35) hC dX10_span_35 rfl (by decide) ?_
      have hL37 : ∀ (n : Nat) (x5 : Int32) (x6 : Int32) (μ7 : Mem), AW G C (qI G C 0 0) 0 0 6 μ7 37 [some (.ref (gad G 0 12)), some (.int a1), some (.int a2), some (.int x5), some (.int x6), none] [] (lp_X10_span_37 a1 a2 n x5 x6 μ7) := by
        intro n
        induction n with
        | zero => intro x5 x6 μ7; exact aw_none
        | succ n ih =>
          intro x5 x6 μ7
          rw [lp_X10_span_37]
          refine aw_iload (pc := 37) hC dX10_span_37 rfl ?_
          refine aw_bipush (pc := 39) (v := 6) hC dX10_span_39 bc6 ?_
          refine aw_icmp_gt (pc := 41) (tgt := 101) hC dX10_span_41 (by decide) (fun _ => ?_) (fun _ => ?_)
          · skip
            refine aw_iload_n (pc := 101) (i := 3) hC dX10_span_101 rfl rfl ?_
            exact aw_iret hC dX10_span_102
          · skip
            refine aw_aload_n (pc := 44) (i := 0) hC dX10_span_44 rfl rfl ?_
            refine aw_get (pc := 45) hC inX10 (v0 (j := 12) (by decide)) rfl rfl 1 (by decide) kw1315 rfl rfl dX10_span_45 ?_
            refine aw_bipush (pc := 48) (v := 15) hC dX10_span_48 bc15 ?_
            refine aw_iload (pc := 50) hC dX10_span_50 rfl ?_
            refine aw_iastoreN (pc := 52) hC (v0 (j := 13) (by decide)) (fun _ => rfl) dX10_span_52 (fun μ8 => ?_)
            refine aw_aload_n (pc := 53) (i := 0) hC dX10_span_53 rfl rfl ?_
            refine aw_iload_n (pc := 54) (i := 1) hC dX10_span_54 rfl rfl ?_
            refine aw_iconst (pc := 55) (v := 1) hC dX10_span_55 ic1 ?_
            refine aw_callVI (pc := 56) (As := [.int a1, .int 1]) hC mb_X10_goes kw1659 (by decide) (c_X10_goes G C.2.1   μ8 a1 1) (v0 (j := 12) (by decide)) rfl rfl rfl (Nat.le_of_ble_eq_true rfl) dX10_span_56 (fun q9 => ?_)
            refine aw_istore (pc := 59) hC dX10_span_59 rfl (by decide) ?_
            refine aw_aload_n (pc := 61) (i := 0) hC dX10_span_61 rfl rfl ?_
            refine aw_callVV (pc := 62) (As := []) hC mb_X10_comesBack kw1519 (by decide) (c_X10_comesBack G C.2.1   q9.2 ) (v0 (j := 12) (by decide)) rfl rfl rfl (Nat.le_of_ble_eq_true rfl) dX10_span_62 (fun q10 => ?_)
            refine aw_iload_n (pc := 65) (i := 3) hC dX10_span_65 rfl rfl ?_
            refine aw_iconst (pc := 66) (v := (-1)) hC dX10_span_66 icm1 ?_
            refine aw_icmp_ne (pc := 67) (tgt := 75) hC dX10_span_67 (by decide) (fun _ => ?_) (fun _ => ?_)
            · skip
              refine aw_iload (pc := 70) hC dX10_span_70 rfl ?_
              refine aw_goto (pc := 72) (tgt := 94) hC dX10_span_72 (by decide) ?_
              refine aw_istore_n (pc := 94) (i := 3) hC dX10_span_94 rfl rfl (by decide) ?_
              refine aw_iinc (pc := 95) (v := x6 + 1) hC dX10_span_95 rfl (congrArg (HAdd.hAdd _) ic1) rfl (by decide) ?_
              refine aw_goto (pc := 98) (tgt := 37) hC dX10_span_98 (by decide) ?_
              exact aw_drop [5] (ih q9.1 (x6 + 1) q10)
            · skip
              refine aw_iload_n (pc := 75) (i := 2) hC dX10_span_75 rfl rfl ?_
              refine aw_if_eq (pc := 76) (tgt := 88) hC dX10_span_76 (by decide) (fun _ => ?_) (fun _ => ?_)
              · skip
                refine aw_iload_n (pc := 88) (i := 3) hC dX10_span_88 rfl rfl ?_
                refine aw_iload (pc := 89) hC dX10_span_89 rfl ?_
                refine aw_callSR (pc := 91) (As := [.int x5, .int q9.1]) hC ms_X10_lesser kw1648 (by decide) (c_X10_lesser G C.2.1   q10 x5 q9.1) rfl (Nat.le_of_ble_eq_true rfl) dX10_span_91 (fun q11 => ?_)
                refine aw_istore_n (pc := 94) (i := 3) hC dX10_span_94 rfl rfl (by decide) ?_
                refine aw_iinc (pc := 95) (v := x6 + 1) hC dX10_span_95 rfl (congrArg (HAdd.hAdd _) ic1) rfl (by decide) ?_
                refine aw_goto (pc := 98) (tgt := 37) hC dX10_span_98 (by decide) ?_
                exact aw_drop [5] (ih q11 (x6 + 1) q10)
              · skip
                refine aw_iload_n (pc := 79) (i := 3) hC dX10_span_79 rfl rfl ?_
                refine aw_iload (pc := 80) hC dX10_span_80 rfl ?_
                refine aw_callSR (pc := 82) (As := [.int x5, .int q9.1]) hC ms_X10_greater kw1663 (by decide) (c_X10_greater G C.2.1   q10 x5 q9.1) rfl (Nat.le_of_ble_eq_true rfl) dX10_span_82 (fun q12 => ?_)
                refine aw_goto (pc := 85) (tgt := 94) hC dX10_span_85 (by decide) ?_
                refine aw_istore_n (pc := 94) (i := 3) hC dX10_span_94 rfl rfl (by decide) ?_
                refine aw_iinc (pc := 95) (v := x6 + 1) hC dX10_span_95 rfl (congrArg (HAdd.hAdd _) ic1) rfl (by decide) ?_
                refine aw_goto (pc := 98) (tgt := 37) hC dX10_span_98 (by decide) ?_
                exact aw_drop [5] (ih q12 (x6 + 1) q10)
      exact hL37 4096 (-1) 1 q4
    · skip
      refine aw_iconst (pc := 26) (v := 0) hC dX10_span_26 ic0 ?_
      exact aw_iret hC dX10_span_27
  · skip
    refine aw_if_ne (pc := 8) (tgt := 15) hC dX10_span_8 (by decide) (fun _ => ?_) (fun _ => ?_)
    · skip
      refine aw_iconst (pc := 11) (v := 1) hC dX10_span_11 ic1 ?_
      refine aw_goto (pc := 12) (tgt := 16) hC dX10_span_12 (by decide) ?_
      exact hJ16 1
    · skip
      refine aw_iconst (pc := 15) (v := 0) hC dX10_span_15 ic0 ?_
      exact hJ16 0
theorem dX10_logged_0 : decode cX10_logged 0 = .ok (.aload_n 0, 1) := by decide +kernel
theorem dX10_logged_1 : decode cX10_logged 1 = .ok (.getfield 7, 3) := by decide +kernel
theorem dX10_logged_4 : decode cX10_logged 4 = .ok (.bipush 64, 2) := by decide +kernel
theorem dX10_logged_6 : decode cX10_logged 6 = .ok (.iconst 4, 1) := by decide +kernel
theorem dX10_logged_7 : decode cX10_logged 7 = .ok (.iload_n 1, 1) := by decide +kernel
theorem dX10_logged_8 : decode cX10_logged 8 = .ok (.imul, 1) := by decide +kernel
theorem dX10_logged_9 : decode cX10_logged 9 = .ok (.iadd, 1) := by decide +kernel
theorem dX10_logged_10 : decode cX10_logged 10 = .ok (.iload_n 2, 1) := by decide +kernel
theorem dX10_logged_11 : decode cX10_logged 11 = .ok (.iadd, 1) := by decide +kernel
theorem dX10_logged_12 : decode cX10_logged 12 = .ok (.iaload, 1) := by decide +kernel
theorem dX10_logged_13 : decode cX10_logged 13 = .ok (.ireturn, 1) := by decide +kernel
def f_X10_logged (μ : Mem) (a1 : Int32) (a2 : Int32) : Option (Int32) := ix ((64 + (4 * a1)) + a2) 704 (some (μ 0 13 ((64 + (4 * a1)) + a2).toNatClampNeg))
set_option maxHeartbeats 4000000 in
set_option maxRecDepth 100000 in
theorem c_X10_logged (G : GG) (l : Launch) (μ : Mem) (a1 : Int32) (a2 : Int32) : CR G l yX10_logged (.code yX10_logged cX10_logged 3 (some .int)) 1 [.ref (gad G 0 12), .int a1, .int a2] μ (f_X10_logged μ a1 a2) := by
  refine CR.of (own := "SaturdayKeepModel") (L0 := [some (.ref (gad G 0 12)), some (.int a1), some (.int a2)]) rfl rfl rfl (Nat.le_of_ble_eq_true rfl) (fun C hl hC => ?_)
  subst hl
  delta f_X10_logged
  refine aw_aload_n (pc := 0) (i := 0) hC dX10_logged_0 rfl rfl ?_
  refine aw_get (pc := 1) hC inX10 (v0 (j := 12) (by decide)) rfl rfl 1 (by decide) kw1315 rfl rfl dX10_logged_1 ?_
  refine aw_bipush (pc := 4) (v := 64) hC dX10_logged_4 bc64 ?_
  refine aw_iconst (pc := 6) (v := 4) hC dX10_logged_6 ic4 ?_
  refine aw_iload_n (pc := 7) (i := 1) hC dX10_logged_7 rfl rfl ?_
  refine aw_imul (pc := 8) hC dX10_logged_8 ?_
  refine aw_iadd (pc := 9) hC dX10_logged_9 ?_
  refine aw_iload_n (pc := 10) (i := 2) hC dX10_logged_10 rfl rfl ?_
  refine aw_iadd (pc := 11) hC dX10_logged_11 ?_
  refine aw_iaload (pc := 12) hC (v0 (j := 13) (by decide)) rfl dX10_logged_12 ?_
  exact aw_iretR hC dX10_logged_13
theorem dX10_led_0 : decode cX10_led 0 = .ok (.aload_n 0, 1) := by decide +kernel
theorem dX10_led_1 : decode cX10_led 1 = .ok (.aload_n 0, 1) := by decide +kernel
theorem dX10_led_2 : decode cX10_led 2 = .ok (.iload_n 1, 1) := by decide +kernel
theorem dX10_led_3 : decode cX10_led 3 = .ok (.invokevirtual 267, 3) := by decide +kernel
theorem dX10_led_6 : decode cX10_led 6 = .ok (.ifCond .ne 7, 3) := by decide +kernel
theorem dX10_led_9 : decode cX10_led 9 = .ok (.iconst 1, 1) := by decide +kernel
theorem dX10_led_10 : decode cX10_led 10 = .ok (.goto 4, 3) := by decide +kernel
theorem dX10_led_13 : decode cX10_led 13 = .ok (.iconst 0, 1) := by decide +kernel
theorem dX10_led_14 : decode cX10_led 14 = .ok (.putfield 42, 3) := by decide +kernel
theorem dX10_led_17 : decode cX10_led 17 = .ok (.aload_n 0, 1) := by decide +kernel
theorem dX10_led_18 : decode cX10_led 18 = .ok (.getfield 42, 3) := by decide +kernel
theorem dX10_led_21 : decode cX10_led 21 = .ok (.ifCond .le 5, 3) := by decide +kernel
theorem dX10_led_24 : decode cX10_led 24 = .ok (.iconst 0, 1) := by decide +kernel
theorem dX10_led_25 : decode cX10_led 25 = .ok (.ireturn, 1) := by decide +kernel
theorem dX10_led_26 : decode cX10_led 26 = .ok (.iconst 0, 1) := by decide +kernel
theorem dX10_led_27 : decode cX10_led 27 = .ok (.istore_n 3, 1) := by decide +kernel
theorem dX10_led_28 : decode cX10_led 28 = .ok (.iconst (-1), 1) := by decide +kernel
theorem dX10_led_29 : decode cX10_led 29 = .ok (.istore 4, 2) := by decide +kernel
theorem dX10_led_31 : decode cX10_led 31 = .ok (.aload_n 0, 1) := by decide +kernel
theorem dX10_led_32 : decode cX10_led 32 = .ok (.getfield 7, 3) := by decide +kernel
theorem dX10_led_35 : decode cX10_led 35 = .ok (.bipush 14, 2) := by decide +kernel
theorem dX10_led_37 : decode cX10_led 37 = .ok (.iaload, 1) := by decide +kernel
theorem dX10_led_38 : decode cX10_led 38 = .ok (.iconst 1, 1) := by decide +kernel
theorem dX10_led_39 : decode cX10_led 39 = .ok (.isub, 1) := by decide +kernel
theorem dX10_led_40 : decode cX10_led 40 = .ok (.istore 5, 2) := by decide +kernel
theorem dX10_led_42 : decode cX10_led 42 = .ok (.iload 5, 2) := by decide +kernel
theorem dX10_led_44 : decode cX10_led 44 = .ok (.ifCond .lt 35, 3) := by decide +kernel
theorem dX10_led_47 : decode cX10_led 47 = .ok (.aload_n 0, 1) := by decide +kernel
theorem dX10_led_48 : decode cX10_led 48 = .ok (.iload 5, 2) := by decide +kernel
theorem dX10_led_50 : decode cX10_led 50 = .ok (.iconst 1, 1) := by decide +kernel
theorem dX10_led_51 : decode cX10_led 51 = .ok (.invokevirtual 338, 3) := by decide +kernel
theorem dX10_led_54 : decode cX10_led 54 = .ok (.iload_n 1, 1) := by decide +kernel
theorem dX10_led_55 : decode cX10_led 55 = .ok (.if_icmp .eq 6, 3) := by decide +kernel
theorem dX10_led_58 : decode cX10_led 58 = .ok (.goto 15, 3) := by decide +kernel
theorem dX10_led_61 : decode cX10_led 61 = .ok (.iinc 3 1, 3) := by decide +kernel
theorem dX10_led_64 : decode cX10_led 64 = .ok (.aload_n 0, 1) := by decide +kernel
theorem dX10_led_65 : decode cX10_led 65 = .ok (.iload 5, 2) := by decide +kernel
theorem dX10_led_67 : decode cX10_led 67 = .ok (.iconst 0, 1) := by decide +kernel
theorem dX10_led_68 : decode cX10_led 68 = .ok (.invokevirtual 338, 3) := by decide +kernel
theorem dX10_led_71 : decode cX10_led 71 = .ok (.istore 4, 2) := by decide +kernel
theorem dX10_led_73 : decode cX10_led 73 = .ok (.iinc 5 (-1), 3) := by decide +kernel
theorem dX10_led_76 : decode cX10_led 76 = .ok (.goto (-34), 3) := by decide +kernel
theorem dX10_led_79 : decode cX10_led 79 = .ok (.iload_n 2, 1) := by decide +kernel
theorem dX10_led_80 : decode cX10_led 80 = .ok (.ifCond .eq 8, 3) := by decide +kernel
theorem dX10_led_83 : decode cX10_led 83 = .ok (.iload 4, 2) := by decide +kernel
theorem dX10_led_85 : decode cX10_led 85 = .ok (.goto 4, 3) := by decide +kernel
theorem dX10_led_88 : decode cX10_led 88 = .ok (.iload_n 3, 1) := by decide +kernel
theorem dX10_led_89 : decode cX10_led 89 = .ok (.ireturn, 1) := by decide +kernel
def lp_X10_led_42 (a1 : Int32) (μ3 : Mem) (k79 : Int32 → Int32 → Option (Int32 × Mem)) : Nat → Int32 → Int32 → Int32 → Option (Int32 × Mem)
  | 0, _, _, _ => none
  | n + 1, x7, x8, x9 => if x9 < 0 then (k79 x7 x8) else ((f_X10_logged μ3 x9 1).bind fun (q10 : Int32) => if q10 = a1 then ((f_X10_logged μ3 x9 0).bind fun (q11 : Int32) => lp_X10_led_42 a1 μ3 k79 n (x7 + 1) q11 (x9 + (-1))) else (lp_X10_led_42 a1 μ3 k79 n x7 x8 (x9 + (-1))))
def f_X10_led (μ : Mem) (a1 : Int32) (a2 : Int32) : Option (Int32 × Mem) := (f_X10_isGuest μ a1).bind fun (q1 : Int32) => nm (fun (x2 : Int32) => nm (upm μ 0 12 0 x2) fun (μ3 : Mem) => if (μ3 0 12 0) ≤ 0 then (ix 14 704 (nm ((μ3 0 13 (Int32.toNatClampNeg 14)) - 1) fun (x4 : Int32) => lp_X10_led_42 a1 μ3 (fun (x5 : Int32) (x6 : Int32) => if a2 = 0 then (some (x5, μ3)) else (some (x6, μ3))) 4096 0 (-1) x4)) else (some (0, μ3))) fun (J14 : Int32 → Option (Int32 × Mem)) => if q1 = 0 then (J14 1) else (J14 0)
set_option maxHeartbeats 4000000 in
set_option maxRecDepth 100000 in
theorem c_X10_led (G : GG) (l : Launch) (μ : Mem) (a1 : Int32) (a2 : Int32) : CI G l yX10_led (.code yX10_led cX10_led 6 (some .int)) 3 [.ref (gad G 0 12), .int a1, .int a2] μ (f_X10_led μ a1 a2) := by
  refine CI.of (own := "SaturdayKeepModel") (L0 := [some (.ref (gad G 0 12)), some (.int a1), some (.int a2), none, none, none]) rfl rfl rfl (Nat.le_of_ble_eq_true rfl) (fun C hl hC => ?_)
  subst hl
  delta f_X10_led
  refine aw_aload_n (pc := 0) (i := 0) hC dX10_led_0 rfl rfl ?_
  refine aw_aload_n (pc := 1) (i := 0) hC dX10_led_1 rfl rfl ?_
  refine aw_iload_n (pc := 2) (i := 1) hC dX10_led_2 rfl rfl ?_
  refine aw_callVR (pc := 3) (As := [.int a1]) hC mb_X10_isGuest kw1535 (by decide) (c_X10_isGuest G C.2.1   μ a1) (v0 (j := 12) (by decide)) rfl rfl rfl (Nat.le_of_ble_eq_true rfl) dX10_led_3 (fun q1 => ?_)
  refine aw_nmJ (fun (J14 : Int32 → Option (Int32 × Mem)) => ∀ (x2 : Int32), AW G C (qI G C 0 0) 0 0 6 μ 14 [some (.ref (gad G 0 12)), some (.int a1), some (.int a2), none, none, none] [.int x2, .ref (gad G 0 12)] (J14 x2)) (fun x2 => ?_) (fun J14 hJ14 => ?_)
  · skip
    refine aw_putIN (pc := 14) hC inX10 (v0 (j := 12) (by decide)) rfl rfl 0 (by decide) kw1314 rfl tyX10 tyX10_ok nmX10 rfl rfl (Nat.le_of_ble_eq_true rfl) rfl dX10_led_14 (fun μ3 => ?_)
    refine aw_aload_n (pc := 17) (i := 0) hC dX10_led_17 rfl rfl ?_
    refine aw_get (pc := 18) hC inX10 (v0 (j := 12) (by decide)) rfl rfl 0 (by decide) kw1314 rfl rfl dX10_led_18 ?_
    refine aw_if_le (pc := 21) (tgt := 26) hC dX10_led_21 (by decide) (fun _ => ?_) (fun _ => ?_)
    · skip
      refine aw_iconst (pc := 26) (v := 0) hC dX10_led_26 ic0 ?_
      refine aw_istore_n (pc := 27) (i := 3) hC dX10_led_27 rfl rfl (by decide) ?_
      refine aw_iconst (pc := 28) (v := (-1)) hC dX10_led_28 icm1 ?_
      refine aw_istore (pc := 29) hC dX10_led_29 rfl (by decide) ?_
      refine aw_aload_n (pc := 31) (i := 0) hC dX10_led_31 rfl rfl ?_
      refine aw_get (pc := 32) hC inX10 (v0 (j := 12) (by decide)) rfl rfl 1 (by decide) kw1315 rfl rfl dX10_led_32 ?_
      refine aw_bipush (pc := 35) (v := 14) hC dX10_led_35 bc14 ?_
      refine aw_iaload (pc := 37) hC (v0 (j := 13) (by decide)) rfl dX10_led_37 ?_
      refine aw_iconst (pc := 38) (v := 1) hC dX10_led_38 ic1 ?_
      refine aw_isub (pc := 39) hC dX10_led_39 ?_
      refine aw_nmI (fun x4 _ => ?_)
      refine aw_istore (pc := 40) hC dX10_led_40 rfl (by decide) ?_
      have hL42 : ∀ (k79 : Int32 → Int32 → Option (Int32 × Mem)) (hk79 : ∀ (x5 : Int32) (x6 : Int32), AW G C (qI G C 0 0) 0 0 6 μ3 79 [none, none, some (.int a2), some (.int x5), some (.int x6), none] [] (k79 x5 x6)) (n : Nat) (x7 : Int32) (x8 : Int32) (x9 : Int32), AW G C (qI G C 0 0) 0 0 6 μ3 42 [some (.ref (gad G 0 12)), some (.int a1), some (.int a2), some (.int x7), some (.int x8), some (.int x9)] [] (lp_X10_led_42 a1 μ3 k79 n x7 x8 x9) := by
        intro k79 hk79 n
        induction n with
        | zero => intro x7 x8 x9; exact aw_none
        | succ n ih =>
          intro x7 x8 x9
          rw [lp_X10_led_42]
          refine aw_iload (pc := 42) hC dX10_led_42 rfl ?_
          refine aw_if_lt (pc := 44) (tgt := 79) hC dX10_led_44 (by decide) (fun _ => ?_) (fun _ => ?_)
          · skip
            exact aw_drop [0, 1, 5] (hk79 x7 x8)
          · skip
            refine aw_aload_n (pc := 47) (i := 0) hC dX10_led_47 rfl rfl ?_
            refine aw_iload (pc := 48) hC dX10_led_48 rfl ?_
            refine aw_iconst (pc := 50) (v := 1) hC dX10_led_50 ic1 ?_
            refine aw_callVR (pc := 51) (As := [.int x9, .int 1]) hC mb_X10_logged kw1862 (by decide) (c_X10_logged G C.2.1   μ3 x9 1) (v0 (j := 12) (by decide)) rfl rfl rfl (Nat.le_of_ble_eq_true rfl) dX10_led_51 (fun q10 => ?_)
            refine aw_iload_n (pc := 54) (i := 1) hC dX10_led_54 rfl rfl ?_
            refine aw_icmp_eq (pc := 55) (tgt := 61) hC dX10_led_55 (by decide) (fun _ => ?_) (fun _ => ?_)
            · skip
              refine aw_iinc (pc := 61) (v := x7 + 1) hC dX10_led_61 rfl (congrArg (HAdd.hAdd _) ic1) rfl (by decide) ?_
              refine aw_aload_n (pc := 64) (i := 0) hC dX10_led_64 rfl rfl ?_
              refine aw_iload (pc := 65) hC dX10_led_65 rfl ?_
              refine aw_iconst (pc := 67) (v := 0) hC dX10_led_67 ic0 ?_
              refine aw_callVR (pc := 68) (As := [.int x9, .int 0]) hC mb_X10_logged kw1862 (by decide) (c_X10_logged G C.2.1   μ3 x9 0) (v0 (j := 12) (by decide)) rfl rfl rfl (Nat.le_of_ble_eq_true rfl) dX10_led_68 (fun q11 => ?_)
              refine aw_istore (pc := 71) hC dX10_led_71 rfl (by decide) ?_
              refine aw_iinc (pc := 73) (v := x9 + (-1)) hC dX10_led_73 rfl (congrArg (HAdd.hAdd _) icm1) rfl (by decide) ?_
              refine aw_goto (pc := 76) (tgt := 42) hC dX10_led_76 (by decide) ?_
              exact ih (x7 + 1) q11 (x9 + (-1))
            · skip
              refine aw_goto (pc := 58) (tgt := 73) hC dX10_led_58 (by decide) ?_
              refine aw_iinc (pc := 73) (v := x9 + (-1)) hC dX10_led_73 rfl (congrArg (HAdd.hAdd _) icm1) rfl (by decide) ?_
              refine aw_goto (pc := 76) (tgt := 42) hC dX10_led_76 (by decide) ?_
              exact ih x7 x8 (x9 + (-1))
      refine hL42 (fun (x5 : Int32) (x6 : Int32) => if a2 = 0 then (some (x5, μ3)) else (some (x6, μ3))) (fun x5 x6 => ?_) 4096 0 (-1) x4
      · skip
        refine aw_iload_n (pc := 79) (i := 2) hC dX10_led_79 rfl rfl ?_
        refine aw_if_eq (pc := 80) (tgt := 88) hC dX10_led_80 (by decide) (fun _ => ?_) (fun _ => ?_)
        · skip
          refine aw_iload_n (pc := 88) (i := 3) hC dX10_led_88 rfl rfl ?_
          exact aw_iret hC dX10_led_89
        · skip
          refine aw_iload (pc := 83) hC dX10_led_83 rfl ?_
          refine aw_goto (pc := 85) (tgt := 89) hC dX10_led_85 (by decide) ?_
          exact aw_iret hC dX10_led_89
    · skip
      refine aw_iconst (pc := 24) (v := 0) hC dX10_led_24 ic0 ?_
      exact aw_iret hC dX10_led_25
  · skip
    refine aw_if_ne (pc := 6) (tgt := 13) hC dX10_led_6 (by decide) (fun _ => ?_) (fun _ => ?_)
    · skip
      refine aw_iconst (pc := 9) (v := 1) hC dX10_led_9 ic1 ?_
      refine aw_goto (pc := 10) (tgt := 14) hC dX10_led_10 (by decide) ?_
      exact hJ14 1
    · skip
      refine aw_iconst (pc := 13) (v := 0) hC dX10_led_13 ic0 ?_
      exact hJ14 0
theorem dX10_log_0 : decode cX10_log 0 = .ok (.aload_n 0, 1) := by decide +kernel
theorem dX10_log_1 : decode cX10_log 1 = .ok (.iload_n 2, 1) := by decide +kernel
theorem dX10_log_2 : decode cX10_log 2 = .ok (.iconst 0, 1) := by decide +kernel
theorem dX10_log_3 : decode cX10_log 3 = .ok (.iconst 3, 1) := by decide +kernel
theorem dX10_log_4 : decode cX10_log 4 = .ok (.invokestatic 45, 3) := by decide +kernel
theorem dX10_log_7 : decode cX10_log 7 = .ok (.ifCond .ne 7, 3) := by decide +kernel
theorem dX10_log_10 : decode cX10_log 10 = .ok (.iconst 1, 1) := by decide +kernel
theorem dX10_log_11 : decode cX10_log 11 = .ok (.goto 4, 3) := by decide +kernel
theorem dX10_log_14 : decode cX10_log 14 = .ok (.iconst 0, 1) := by decide +kernel
theorem dX10_log_15 : decode cX10_log 15 = .ok (.putfield 42, 3) := by decide +kernel
theorem dX10_log_18 : decode cX10_log 18 = .ok (.aload_n 0, 1) := by decide +kernel
theorem dX10_log_19 : decode cX10_log 19 = .ok (.getfield 42, 3) := by decide +kernel
theorem dX10_log_22 : decode cX10_log 22 = .ok (.ifCond .le 5, 3) := by decide +kernel
theorem dX10_log_25 : decode cX10_log 25 = .ok (.iconst 0, 1) := by decide +kernel
theorem dX10_log_26 : decode cX10_log 26 = .ok (.ireturn, 1) := by decide +kernel
theorem dX10_log_27 : decode cX10_log 27 = .ok (.iload_n 1, 1) := by decide +kernel
theorem dX10_log_28 : decode cX10_log 28 = .ok (.iconst 0, 1) := by decide +kernel
theorem dX10_log_29 : decode cX10_log 29 = .ok (.aload_n 0, 1) := by decide +kernel
theorem dX10_log_30 : decode cX10_log 30 = .ok (.getfield 7, 3) := by decide +kernel
theorem dX10_log_33 : decode cX10_log 33 = .ok (.bipush 14, 2) := by decide +kernel
theorem dX10_log_35 : decode cX10_log 35 = .ok (.iaload, 1) := by decide +kernel
theorem dX10_log_36 : decode cX10_log 36 = .ok (.iconst 1, 1) := by decide +kernel
theorem dX10_log_37 : decode cX10_log 37 = .ok (.isub, 1) := by decide +kernel
theorem dX10_log_38 : decode cX10_log 38 = .ok (.invokestatic 45, 3) := by decide +kernel
theorem dX10_log_41 : decode cX10_log 41 = .ok (.ifCond .eq 12, 3) := by decide +kernel
theorem dX10_log_44 : decode cX10_log 44 = .ok (.aload_n 0, 1) := by decide +kernel
theorem dX10_log_45 : decode cX10_log 45 = .ok (.iload_n 1, 1) := by decide +kernel
theorem dX10_log_46 : decode cX10_log 46 = .ok (.iload_n 2, 1) := by decide +kernel
theorem dX10_log_47 : decode cX10_log 47 = .ok (.invokevirtual 338, 3) := by decide +kernel
theorem dX10_log_50 : decode cX10_log 50 = .ok (.goto 4, 3) := by decide +kernel
theorem dX10_log_53 : decode cX10_log 53 = .ok (.iconst (-1), 1) := by decide +kernel
theorem dX10_log_54 : decode cX10_log 54 = .ok (.ireturn, 1) := by decide +kernel
def f_X10_log (μ : Mem) (a1 : Int32) (a2 : Int32) : Option (Int32 × Mem) := (f_X10_isIn a2 0 3).bind fun (q1 : Int32) => nm (fun (x2 : Int32) => nm (upm μ 0 12 0 x2) fun (μ3 : Mem) => if (μ3 0 12 0) ≤ 0 then (ix 14 704 ((f_X10_isIn a1 0 ((μ3 0 13 (Int32.toNatClampNeg 14)) - 1)).bind fun (q4 : Int32) => if q4 = 0 then (some ((-1), μ3)) else ((f_X10_logged μ3 a1 a2).bind fun (q5 : Int32) => some (q5, μ3)))) else (some (0, μ3))) fun (J15 : Int32 → Option (Int32 × Mem)) => if q1 = 0 then (J15 1) else (J15 0)
set_option maxHeartbeats 4000000 in
set_option maxRecDepth 100000 in
theorem c_X10_log (G : GG) (l : Launch) (μ : Mem) (a1 : Int32) (a2 : Int32) : CI G l yX10_log (.code yX10_log cX10_log 3 (some .int)) 2 [.ref (gad G 0 12), .int a1, .int a2] μ (f_X10_log μ a1 a2) := by
  refine CI.of (own := "SaturdayKeepModel") (L0 := [some (.ref (gad G 0 12)), some (.int a1), some (.int a2)]) rfl rfl rfl (Nat.le_of_ble_eq_true rfl) (fun C hl hC => ?_)
  subst hl
  delta f_X10_log
  refine aw_aload_n (pc := 0) (i := 0) hC dX10_log_0 rfl rfl ?_
  refine aw_iload_n (pc := 1) (i := 2) hC dX10_log_1 rfl rfl ?_
  refine aw_iconst (pc := 2) (v := 0) hC dX10_log_2 ic0 ?_
  refine aw_iconst (pc := 3) (v := 3) hC dX10_log_3 ic3 ?_
  refine aw_callSR (pc := 4) (As := [.int a2, .int 0, .int 3]) hC ms_X10_isIn kw1394 (by decide) (c_X10_isIn G C.2.1   μ a2 0 3) rfl (Nat.le_of_ble_eq_true rfl) dX10_log_4 (fun q1 => ?_)
  refine aw_nmJ (fun (J15 : Int32 → Option (Int32 × Mem)) => ∀ (x2 : Int32), AW G C (qI G C 0 0) 0 0 3 μ 15 [some (.ref (gad G 0 12)), some (.int a1), some (.int a2)] [.int x2, .ref (gad G 0 12)] (J15 x2)) (fun x2 => ?_) (fun J15 hJ15 => ?_)
  · skip
    refine aw_putIN (pc := 15) hC inX10 (v0 (j := 12) (by decide)) rfl rfl 0 (by decide) kw1314 rfl tyX10 tyX10_ok nmX10 rfl rfl (Nat.le_of_ble_eq_true rfl) rfl dX10_log_15 (fun μ3 => ?_)
    refine aw_aload_n (pc := 18) (i := 0) hC dX10_log_18 rfl rfl ?_
    refine aw_get (pc := 19) hC inX10 (v0 (j := 12) (by decide)) rfl rfl 0 (by decide) kw1314 rfl rfl dX10_log_19 ?_
    refine aw_if_le (pc := 22) (tgt := 27) hC dX10_log_22 (by decide) (fun _ => ?_) (fun _ => ?_)
    · skip
      refine aw_iload_n (pc := 27) (i := 1) hC dX10_log_27 rfl rfl ?_
      refine aw_iconst (pc := 28) (v := 0) hC dX10_log_28 ic0 ?_
      refine aw_aload_n (pc := 29) (i := 0) hC dX10_log_29 rfl rfl ?_
      refine aw_get (pc := 30) hC inX10 (v0 (j := 12) (by decide)) rfl rfl 1 (by decide) kw1315 rfl rfl dX10_log_30 ?_
      refine aw_bipush (pc := 33) (v := 14) hC dX10_log_33 bc14 ?_
      refine aw_iaload (pc := 35) hC (v0 (j := 13) (by decide)) rfl dX10_log_35 ?_
      refine aw_iconst (pc := 36) (v := 1) hC dX10_log_36 ic1 ?_
      refine aw_isub (pc := 37) hC dX10_log_37 ?_
      refine aw_callSR (pc := 38) (As := [.int a1, .int 0, .int ((μ3 0 13 (Int32.toNatClampNeg 14)) - 1)]) hC ms_X10_isIn kw1394 (by decide) (c_X10_isIn G C.2.1   μ3 a1 0 ((μ3 0 13 (Int32.toNatClampNeg 14)) - 1)) rfl (Nat.le_of_ble_eq_true rfl) dX10_log_38 (fun q4 => ?_)
      refine aw_if_eq (pc := 41) (tgt := 53) hC dX10_log_41 (by decide) (fun _ => ?_) (fun _ => ?_)
      · skip
        refine aw_iconst (pc := 53) (v := (-1)) hC dX10_log_53 icm1 ?_
        exact aw_iret hC dX10_log_54
      · skip
        refine aw_aload_n (pc := 44) (i := 0) hC dX10_log_44 rfl rfl ?_
        refine aw_iload_n (pc := 45) (i := 1) hC dX10_log_45 rfl rfl ?_
        refine aw_iload_n (pc := 46) (i := 2) hC dX10_log_46 rfl rfl ?_
        refine aw_callVR (pc := 47) (As := [.int a1, .int a2]) hC mb_X10_logged kw1862 (by decide) (c_X10_logged G C.2.1   μ3 a1 a2) (v0 (j := 12) (by decide)) rfl rfl rfl (Nat.le_of_ble_eq_true rfl) dX10_log_47 (fun q5 => ?_)
        refine aw_goto (pc := 50) (tgt := 54) hC dX10_log_50 (by decide) ?_
        exact aw_iret hC dX10_log_54
    · skip
      refine aw_iconst (pc := 25) (v := 0) hC dX10_log_25 ic0 ?_
      exact aw_iret hC dX10_log_26
  · skip
    refine aw_if_ne (pc := 7) (tgt := 14) hC dX10_log_7 (by decide) (fun _ => ?_) (fun _ => ?_)
    · skip
      refine aw_iconst (pc := 10) (v := 1) hC dX10_log_10 ic1 ?_
      refine aw_goto (pc := 11) (tgt := 15) hC dX10_log_11 (by decide) ?_
      exact hJ15 1
    · skip
      refine aw_iconst (pc := 14) (v := 0) hC dX10_log_14 ic0 ?_
      exact hJ15 0
theorem dX10_seed_0 : decode cX10_seed 0 = .ok (.aload_n 0, 1) := by decide +kernel
theorem dX10_seed_1 : decode cX10_seed 1 = .ok (.iconst 0, 1) := by decide +kernel
theorem dX10_seed_2 : decode cX10_seed 2 = .ok (.putfield 42, 3) := by decide +kernel
theorem dX10_seed_5 : decode cX10_seed 5 = .ok (.aload_n 0, 1) := by decide +kernel
theorem dX10_seed_6 : decode cX10_seed 6 = .ok (.getfield 7, 3) := by decide +kernel
theorem dX10_seed_9 : decode cX10_seed 9 = .ok (.bipush 15, 2) := by decide +kernel
theorem dX10_seed_11 : decode cX10_seed 11 = .ok (.iaload, 1) := by decide +kernel
theorem dX10_seed_12 : decode cX10_seed 12 = .ok (.istore_n 2, 1) := by decide +kernel
theorem dX10_seed_13 : decode cX10_seed 13 = .ok (.aload_n 0, 1) := by decide +kernel
theorem dX10_seed_14 : decode cX10_seed 14 = .ok (.getfield 7, 3) := by decide +kernel
theorem dX10_seed_17 : decode cX10_seed 17 = .ok (.bipush 15, 2) := by decide +kernel
theorem dX10_seed_19 : decode cX10_seed 19 = .ok (.iload_n 1, 1) := by decide +kernel
theorem dX10_seed_20 : decode cX10_seed 20 = .ok (.iastore, 1) := by decide +kernel
theorem dX10_seed_21 : decode cX10_seed 21 = .ok (.iload_n 2, 1) := by decide +kernel
theorem dX10_seed_22 : decode cX10_seed 22 = .ok (.ireturn, 1) := by decide +kernel
def f_X10_seed (μ : Mem) (a1 : Int32) : Option (Int32 × Mem) := nm (upm μ 0 12 0 0) fun (μ1 : Mem) => ix 15 704 (nm (μ1 0 13 (Int32.toNatClampNeg 15)) fun (x2 : Int32) => ix 15 704 (nm (upm μ1 0 13 (Int32.toNatClampNeg 15) a1) fun (μ3 : Mem) => some (x2, μ3)))
set_option maxHeartbeats 4000000 in
set_option maxRecDepth 100000 in
theorem c_X10_seed (G : GG) (l : Launch) (μ : Mem) (a1 : Int32) : CI G l yX10_seed (.code yX10_seed cX10_seed 3 (some .int)) 1 [.ref (gad G 0 12), .int a1] μ (f_X10_seed μ a1) := by
  refine CI.of (own := "SaturdayKeepModel") (L0 := [some (.ref (gad G 0 12)), some (.int a1), none]) rfl rfl rfl (Nat.le_of_ble_eq_true rfl) (fun C hl hC => ?_)
  subst hl
  delta f_X10_seed
  refine aw_aload_n (pc := 0) (i := 0) hC dX10_seed_0 rfl rfl ?_
  refine aw_iconst (pc := 1) (v := 0) hC dX10_seed_1 ic0 ?_
  refine aw_putIN (pc := 2) hC inX10 (v0 (j := 12) (by decide)) rfl rfl 0 (by decide) kw1314 rfl tyX10 tyX10_ok nmX10 rfl rfl (Nat.le_of_ble_eq_true rfl) rfl dX10_seed_2 (fun μ1 => ?_)
  refine aw_aload_n (pc := 5) (i := 0) hC dX10_seed_5 rfl rfl ?_
  refine aw_get (pc := 6) hC inX10 (v0 (j := 12) (by decide)) rfl rfl 1 (by decide) kw1315 rfl rfl dX10_seed_6 ?_
  refine aw_bipush (pc := 9) (v := 15) hC dX10_seed_9 bc15 ?_
  refine aw_iaload (pc := 11) hC (v0 (j := 13) (by decide)) rfl dX10_seed_11 ?_
  refine aw_nmI (fun x2 _ => ?_)
  refine aw_istore_n (pc := 12) (i := 2) hC dX10_seed_12 rfl rfl (by decide) ?_
  refine aw_aload_n (pc := 13) (i := 0) hC dX10_seed_13 rfl rfl ?_
  refine aw_get (pc := 14) hC inX10 (v0 (j := 12) (by decide)) rfl rfl 1 (by decide) kw1315 rfl rfl dX10_seed_14 ?_
  refine aw_bipush (pc := 17) (v := 15) hC dX10_seed_17 bc15 ?_
  refine aw_iload_n (pc := 19) (i := 1) hC dX10_seed_19 rfl rfl ?_
  refine aw_iastoreN (pc := 20) hC (v0 (j := 13) (by decide)) (fun _ => rfl) dX10_seed_20 (fun μ3 => ?_)
  refine aw_iload_n (pc := 21) (i := 2) hC dX10_seed_21 rfl rfl ?_
  exact aw_iret hC dX10_seed_22
theorem dX10_undo_0 : decode cX10_undo 0 = .ok (.aload_n 0, 1) := by decide +kernel
theorem dX10_undo_1 : decode cX10_undo 1 = .ok (.iconst 0, 1) := by decide +kernel
theorem dX10_undo_2 : decode cX10_undo 2 = .ok (.putfield 42, 3) := by decide +kernel
theorem dX10_undo_5 : decode cX10_undo 5 = .ok (.aload_n 0, 1) := by decide +kernel
theorem dX10_undo_6 : decode cX10_undo 6 = .ok (.getfield 172, 3) := by decide +kernel
theorem dX10_undo_9 : decode cX10_undo 9 = .ok (.ifCond .ne 5, 3) := by decide +kernel
theorem dX10_undo_12 : decode cX10_undo 12 = .ok (.iconst 0, 1) := by decide +kernel
theorem dX10_undo_13 : decode cX10_undo 13 = .ok (.ireturn, 1) := by decide +kernel
theorem dX10_undo_14 : decode cX10_undo 14 = .ok (.aload_n 0, 1) := by decide +kernel
theorem dX10_undo_15 : decode cX10_undo 15 = .ok (.dup, 1) := by decide +kernel
theorem dX10_undo_16 : decode cX10_undo 16 = .ok (.getfield 172, 3) := by decide +kernel
theorem dX10_undo_19 : decode cX10_undo 19 = .ok (.iconst 1, 1) := by decide +kernel
theorem dX10_undo_20 : decode cX10_undo 20 = .ok (.isub, 1) := by decide +kernel
theorem dX10_undo_21 : decode cX10_undo 21 = .ok (.putfield 172, 3) := by decide +kernel
theorem dX10_undo_24 : decode cX10_undo 24 = .ok (.iconst 0, 1) := by decide +kernel
theorem dX10_undo_25 : decode cX10_undo 25 = .ok (.istore_n 1, 1) := by decide +kernel
theorem dX10_undo_26 : decode cX10_undo 26 = .ok (.iload_n 1, 1) := by decide +kernel
theorem dX10_undo_27 : decode cX10_undo 27 = .ok (.sipush 304, 3) := by decide +kernel
theorem dX10_undo_30 : decode cX10_undo 30 = .ok (.if_icmp .ge 30, 3) := by decide +kernel
theorem dX10_undo_33 : decode cX10_undo 33 = .ok (.aload_n 0, 1) := by decide +kernel
theorem dX10_undo_34 : decode cX10_undo 34 = .ok (.getfield 7, 3) := by decide +kernel
theorem dX10_undo_37 : decode cX10_undo 37 = .ok (.iload_n 1, 1) := by decide +kernel
theorem dX10_undo_38 : decode cX10_undo 38 = .ok (.aload_n 0, 1) := by decide +kernel
theorem dX10_undo_39 : decode cX10_undo 39 = .ok (.getfield 19, 3) := by decide +kernel
theorem dX10_undo_42 : decode cX10_undo 42 = .ok (.sipush 304, 3) := by decide +kernel
theorem dX10_undo_45 : decode cX10_undo 45 = .ok (.aload_n 0, 1) := by decide +kernel
theorem dX10_undo_46 : decode cX10_undo 46 = .ok (.getfield 172, 3) := by decide +kernel
theorem dX10_undo_49 : decode cX10_undo 49 = .ok (.imul, 1) := by decide +kernel
theorem dX10_undo_50 : decode cX10_undo 50 = .ok (.iload_n 1, 1) := by decide +kernel
theorem dX10_undo_51 : decode cX10_undo 51 = .ok (.iadd, 1) := by decide +kernel
theorem dX10_undo_52 : decode cX10_undo 52 = .ok (.iaload, 1) := by decide +kernel
theorem dX10_undo_53 : decode cX10_undo 53 = .ok (.iastore, 1) := by decide +kernel
theorem dX10_undo_54 : decode cX10_undo 54 = .ok (.iinc 1 1, 3) := by decide +kernel
theorem dX10_undo_57 : decode cX10_undo 57 = .ok (.goto (-31), 3) := by decide +kernel
theorem dX10_undo_60 : decode cX10_undo 60 = .ok (.iconst 1, 1) := by decide +kernel
theorem dX10_undo_61 : decode cX10_undo 61 = .ok (.ireturn, 1) := by decide +kernel
def lp_X10_undo_26  : Nat → Int32 → Mem → Option (Int32 × Mem)
  | 0, _, _ => none
  | n + 1, x3, μ4 => if 304 ≤ x3 then (some (1, μ4)) else (ix ((304 * (μ4 0 12 6)) + x3) 3648 (ix x3 704 (nm (upm μ4 0 13 x3.toNatClampNeg (μ4 0 16 ((304 * (μ4 0 12 6)) + x3).toNatClampNeg)) fun (μ5 : Mem) => lp_X10_undo_26 n (x3 + 1) μ5)))
def f_X10_undo (μ : Mem) : Option (Int32 × Mem) := nm (upm μ 0 12 0 0) fun (μ1 : Mem) => if (μ1 0 12 6) = 0 then (some (0, μ1)) else (nm (upm μ1 0 12 6 ((μ1 0 12 6) - 1)) fun (μ2 : Mem) => lp_X10_undo_26 4096 0 μ2)
set_option maxHeartbeats 4000000 in
set_option maxRecDepth 100000 in
theorem c_X10_undo (G : GG) (l : Launch) (μ : Mem) : CI G l yX10_undo (.code yX10_undo cX10_undo 2 (some .boolean)) 1 [.ref (gad G 0 12)] μ (f_X10_undo μ) := by
  refine CI.of (own := "SaturdayKeepModel") (L0 := [some (.ref (gad G 0 12)), none]) rfl rfl rfl (Nat.le_of_ble_eq_true rfl) (fun C hl hC => ?_)
  subst hl
  delta f_X10_undo
  refine aw_aload_n (pc := 0) (i := 0) hC dX10_undo_0 rfl rfl ?_
  refine aw_iconst (pc := 1) (v := 0) hC dX10_undo_1 ic0 ?_
  refine aw_putIN (pc := 2) hC inX10 (v0 (j := 12) (by decide)) rfl rfl 0 (by decide) kw1314 rfl tyX10 tyX10_ok nmX10 rfl rfl (Nat.le_of_ble_eq_true rfl) rfl dX10_undo_2 (fun μ1 => ?_)
  refine aw_aload_n (pc := 5) (i := 0) hC dX10_undo_5 rfl rfl ?_
  refine aw_get (pc := 6) hC inX10 (v0 (j := 12) (by decide)) rfl rfl 6 (by decide) kw1320 rfl rfl dX10_undo_6 ?_
  refine aw_if_ne (pc := 9) (tgt := 14) hC dX10_undo_9 (by decide) (fun _ => ?_) (fun _ => ?_)
  · skip
    refine aw_iconst (pc := 12) (v := 0) hC dX10_undo_12 ic0 ?_
    exact aw_zret0 hC dX10_undo_13
  · skip
    refine aw_aload_n (pc := 14) (i := 0) hC dX10_undo_14 rfl rfl ?_
    refine aw_dup (pc := 15) hC dX10_undo_15 rfl ?_
    refine aw_get (pc := 16) hC inX10 (v0 (j := 12) (by decide)) rfl rfl 6 (by decide) kw1320 rfl rfl dX10_undo_16 ?_
    refine aw_iconst (pc := 19) (v := 1) hC dX10_undo_19 ic1 ?_
    refine aw_isub (pc := 20) hC dX10_undo_20 ?_
    refine aw_putIN (pc := 21) hC inX10 (v0 (j := 12) (by decide)) rfl rfl 6 (by decide) kw1320 rfl tyX10 tyX10_ok nmX10 rfl rfl (Nat.le_of_ble_eq_true rfl) rfl dX10_undo_21 (fun μ2 => ?_)
    refine aw_iconst (pc := 24) (v := 0) hC dX10_undo_24 ic0 ?_
    refine aw_istore_n (pc := 25) (i := 1) hC dX10_undo_25 rfl rfl (by decide) ?_
    have hL26 : ∀ (n : Nat) (x3 : Int32) (μ4 : Mem), AW G C (qI G C 0 0) 0 0 2 μ4 26 [some (.ref (gad G 0 12)), some (.int x3)] [] (lp_X10_undo_26 n x3 μ4) := by
      intro n
      induction n with
      | zero => intro x3 μ4; exact aw_none
      | succ n ih =>
        intro x3 μ4
        rw [lp_X10_undo_26]
        refine aw_iload_n (pc := 26) (i := 1) hC dX10_undo_26 rfl rfl ?_
        refine aw_sipush (pc := 27) (v := 304) hC dX10_undo_27 sc304 ?_
        refine aw_icmp_ge (pc := 30) (tgt := 60) hC dX10_undo_30 (by decide) (fun _ => ?_) (fun _ => ?_)
        · skip
          refine aw_iconst (pc := 60) (v := 1) hC dX10_undo_60 ic1 ?_
          exact aw_zret1 hC dX10_undo_61
        · skip
          refine aw_aload_n (pc := 33) (i := 0) hC dX10_undo_33 rfl rfl ?_
          refine aw_get (pc := 34) hC inX10 (v0 (j := 12) (by decide)) rfl rfl 1 (by decide) kw1315 rfl rfl dX10_undo_34 ?_
          refine aw_iload_n (pc := 37) (i := 1) hC dX10_undo_37 rfl rfl ?_
          refine aw_aload_n (pc := 38) (i := 0) hC dX10_undo_38 rfl rfl ?_
          refine aw_get (pc := 39) hC inX10 (v0 (j := 12) (by decide)) rfl rfl 5 (by decide) kw1319 rfl rfl dX10_undo_39 ?_
          refine aw_sipush (pc := 42) (v := 304) hC dX10_undo_42 sc304 ?_
          refine aw_aload_n (pc := 45) (i := 0) hC dX10_undo_45 rfl rfl ?_
          refine aw_get (pc := 46) hC inX10 (v0 (j := 12) (by decide)) rfl rfl 6 (by decide) kw1320 rfl rfl dX10_undo_46 ?_
          refine aw_imul (pc := 49) hC dX10_undo_49 ?_
          refine aw_iload_n (pc := 50) (i := 1) hC dX10_undo_50 rfl rfl ?_
          refine aw_iadd (pc := 51) hC dX10_undo_51 ?_
          refine aw_iaload (pc := 52) hC (v0 (j := 16) (by decide)) rfl dX10_undo_52 ?_
          refine aw_iastoreN (pc := 53) hC (v0 (j := 13) (by decide)) (fun _ => rfl) dX10_undo_53 (fun μ5 => ?_)
          refine aw_iinc (pc := 54) (v := x3 + 1) hC dX10_undo_54 rfl (congrArg (HAdd.hAdd _) ic1) rfl (by decide) ?_
          refine aw_goto (pc := 57) (tgt := 26) hC dX10_undo_57 (by decide) ?_
          exact ih (x3 + 1) μ5
    exact hL26 4096 0 μ2
theorem dX10_image_0 : decode cX10_image 0 = .ok (.aload_n 0, 1) := by decide +kernel
theorem dX10_image_1 : decode cX10_image 1 = .ok (.iconst 0, 1) := by decide +kernel
theorem dX10_image_2 : decode cX10_image 2 = .ok (.putfield 42, 3) := by decide +kernel
theorem dX10_image_5 : decode cX10_image 5 = .ok (.iconst 0, 1) := by decide +kernel
theorem dX10_image_6 : decode cX10_image 6 = .ok (.istore_n 1, 1) := by decide +kernel
theorem dX10_image_7 : decode cX10_image 7 = .ok (.iload_n 1, 1) := by decide +kernel
theorem dX10_image_8 : decode cX10_image 8 = .ok (.sipush 704, 3) := by decide +kernel
theorem dX10_image_11 : decode cX10_image 11 = .ok (.if_icmp .ge 21, 3) := by decide +kernel
theorem dX10_image_14 : decode cX10_image 14 = .ok (.aload_n 0, 1) := by decide +kernel
theorem dX10_image_15 : decode cX10_image 15 = .ok (.getfield 13, 3) := by decide +kernel
theorem dX10_image_18 : decode cX10_image 18 = .ok (.iload_n 1, 1) := by decide +kernel
theorem dX10_image_19 : decode cX10_image 19 = .ok (.aload_n 0, 1) := by decide +kernel
theorem dX10_image_20 : decode cX10_image 20 = .ok (.getfield 7, 3) := by decide +kernel
theorem dX10_image_23 : decode cX10_image 23 = .ok (.iload_n 1, 1) := by decide +kernel
theorem dX10_image_24 : decode cX10_image 24 = .ok (.iaload, 1) := by decide +kernel
theorem dX10_image_25 : decode cX10_image 25 = .ok (.iastore, 1) := by decide +kernel
theorem dX10_image_26 : decode cX10_image 26 = .ok (.iinc 1 1, 3) := by decide +kernel
theorem dX10_image_29 : decode cX10_image 29 = .ok (.goto (-22), 3) := by decide +kernel
theorem dX10_image_32 : decode cX10_image 32 = .ok (.aload_n 0, 1) := by decide +kernel
theorem dX10_image_33 : decode cX10_image 33 = .ok (.iconst 1, 1) := by decide +kernel
theorem dX10_image_34 : decode cX10_image 34 = .ok (.putfield 341, 3) := by decide +kernel
theorem dX10_image_37 : decode cX10_image 37 = .ok (.return_, 1) := by decide +kernel
def lp_X10_image_7 (k32 : Mem → Option (Mem)) : Nat → Int32 → Mem → Option (Mem)
  | 0, _, _ => none
  | n + 1, x3, μ4 => if 704 ≤ x3 then (k32 μ4) else (ix x3 704 (ix x3 704 (nm (upm μ4 0 14 x3.toNatClampNeg (μ4 0 13 x3.toNatClampNeg)) fun (μ5 : Mem) => lp_X10_image_7 k32 n (x3 + 1) μ5)))
def f_X10_image (μ : Mem) : Option (Mem) := nm (upm μ 0 12 0 0) fun (μ1 : Mem) => lp_X10_image_7 (fun (μ2 : Mem) => bk 1 (nm (upm μ2 0 12 3 1) fun (μ6 : Mem) => some μ6)) 4096 0 μ1
set_option maxHeartbeats 4000000 in
set_option maxRecDepth 100000 in
theorem c_X10_image (G : GG) (l : Launch) (μ : Mem) : CV G l yX10_image (.code yX10_image cX10_image 2 none) 1 [.ref (gad G 0 12)] μ (f_X10_image μ) := by
  refine CV.of (own := "SaturdayKeepModel") (L0 := [some (.ref (gad G 0 12)), none]) rfl rfl rfl (Nat.le_of_ble_eq_true rfl) (fun C hl hC => ?_)
  subst hl
  delta f_X10_image
  refine aw_aload_n (pc := 0) (i := 0) hC dX10_image_0 rfl rfl ?_
  refine aw_iconst (pc := 1) (v := 0) hC dX10_image_1 ic0 ?_
  refine aw_putIN (pc := 2) hC inX10 (v0 (j := 12) (by decide)) rfl rfl 0 (by decide) kw1314 rfl tyX10 tyX10_ok nmX10 rfl rfl (Nat.le_of_ble_eq_true rfl) rfl dX10_image_2 (fun μ1 => ?_)
  refine aw_iconst (pc := 5) (v := 0) hC dX10_image_5 ic0 ?_
  refine aw_istore_n (pc := 6) (i := 1) hC dX10_image_6 rfl rfl (by decide) ?_
  have hL7 : ∀ (k32 : Mem → Option (Mem)) (hk32 : ∀ (μ2 : Mem), AW G C (qV G C 0 0) 0 0 2 μ2 32 [some (.ref (gad G 0 12)), none] [] (k32 μ2)) (n : Nat) (x3 : Int32) (μ4 : Mem), AW G C (qV G C 0 0) 0 0 2 μ4 7 [some (.ref (gad G 0 12)), some (.int x3)] [] (lp_X10_image_7 k32 n x3 μ4) := by
    intro k32 hk32 n
    induction n with
    | zero => intro x3 μ4; exact aw_none
    | succ n ih =>
      intro x3 μ4
      rw [lp_X10_image_7]
      refine aw_iload_n (pc := 7) (i := 1) hC dX10_image_7 rfl rfl ?_
      refine aw_sipush (pc := 8) (v := 704) hC dX10_image_8 sc704 ?_
      refine aw_icmp_ge (pc := 11) (tgt := 32) hC dX10_image_11 (by decide) (fun _ => ?_) (fun _ => ?_)
      · skip
        exact aw_drop [1] (hk32 μ4)
      · skip
        refine aw_aload_n (pc := 14) (i := 0) hC dX10_image_14 rfl rfl ?_
        refine aw_get (pc := 15) hC inX10 (v0 (j := 12) (by decide)) rfl rfl 2 (by decide) kw1316 rfl rfl dX10_image_15 ?_
        refine aw_iload_n (pc := 18) (i := 1) hC dX10_image_18 rfl rfl ?_
        refine aw_aload_n (pc := 19) (i := 0) hC dX10_image_19 rfl rfl ?_
        refine aw_get (pc := 20) hC inX10 (v0 (j := 12) (by decide)) rfl rfl 1 (by decide) kw1315 rfl rfl dX10_image_20 ?_
        refine aw_iload_n (pc := 23) (i := 1) hC dX10_image_23 rfl rfl ?_
        refine aw_iaload (pc := 24) hC (v0 (j := 13) (by decide)) rfl dX10_image_24 ?_
        refine aw_iastoreN (pc := 25) hC (v0 (j := 14) (by decide)) (fun _ => rfl) dX10_image_25 (fun μ5 => ?_)
        refine aw_iinc (pc := 26) (v := x3 + 1) hC dX10_image_26 rfl (congrArg (HAdd.hAdd _) ic1) rfl (by decide) ?_
        refine aw_goto (pc := 29) (tgt := 7) hC dX10_image_29 (by decide) ?_
        exact ih (x3 + 1) μ5
  refine hL7 (fun (μ2 : Mem) => bk 1 (nm (upm μ2 0 12 3 1) fun (μ6 : Mem) => some μ6)) (fun μ2 => ?_) 4096 0 μ1
  · skip
    refine aw_aload_n (pc := 32) (i := 0) hC dX10_image_32 rfl rfl ?_
    refine aw_iconst (pc := 33) (v := 1) hC dX10_image_33 ic1 ?_
    refine aw_putZN (pc := 34) hC inX10 (v0 (j := 12) (by decide)) rfl rfl 3 (by decide) kw1317 rfl tyX10 tyX10_ok nmX10 rfl rfl (Nat.le_of_ble_eq_true rfl) rfl dX10_image_34 (fun μ6 => ?_)
    exact aw_vret hC dX10_image_37
theorem dX10_back_0 : decode cX10_back 0 = .ok (.aload_n 0, 1) := by decide +kernel
theorem dX10_back_1 : decode cX10_back 1 = .ok (.iconst 0, 1) := by decide +kernel
theorem dX10_back_2 : decode cX10_back 2 = .ok (.putfield 42, 3) := by decide +kernel
theorem dX10_back_5 : decode cX10_back 5 = .ok (.aload_n 0, 1) := by decide +kernel
theorem dX10_back_6 : decode cX10_back 6 = .ok (.getfield 341, 3) := by decide +kernel
theorem dX10_back_9 : decode cX10_back 9 = .ok (.ifCond .ne 5, 3) := by decide +kernel
theorem dX10_back_12 : decode cX10_back 12 = .ok (.iconst 0, 1) := by decide +kernel
theorem dX10_back_13 : decode cX10_back 13 = .ok (.ireturn, 1) := by decide +kernel
theorem dX10_back_14 : decode cX10_back 14 = .ok (.iconst 0, 1) := by decide +kernel
theorem dX10_back_15 : decode cX10_back 15 = .ok (.istore_n 1, 1) := by decide +kernel
theorem dX10_back_16 : decode cX10_back 16 = .ok (.iload_n 1, 1) := by decide +kernel
theorem dX10_back_17 : decode cX10_back 17 = .ok (.sipush 704, 3) := by decide +kernel
theorem dX10_back_20 : decode cX10_back 20 = .ok (.if_icmp .ge 21, 3) := by decide +kernel
theorem dX10_back_23 : decode cX10_back 23 = .ok (.aload_n 0, 1) := by decide +kernel
theorem dX10_back_24 : decode cX10_back 24 = .ok (.getfield 7, 3) := by decide +kernel
theorem dX10_back_27 : decode cX10_back 27 = .ok (.iload_n 1, 1) := by decide +kernel
theorem dX10_back_28 : decode cX10_back 28 = .ok (.aload_n 0, 1) := by decide +kernel
theorem dX10_back_29 : decode cX10_back 29 = .ok (.getfield 13, 3) := by decide +kernel
theorem dX10_back_32 : decode cX10_back 32 = .ok (.iload_n 1, 1) := by decide +kernel
theorem dX10_back_33 : decode cX10_back 33 = .ok (.iaload, 1) := by decide +kernel
theorem dX10_back_34 : decode cX10_back 34 = .ok (.iastore, 1) := by decide +kernel
theorem dX10_back_35 : decode cX10_back 35 = .ok (.iinc 1 1, 3) := by decide +kernel
theorem dX10_back_38 : decode cX10_back 38 = .ok (.goto (-22), 3) := by decide +kernel
theorem dX10_back_41 : decode cX10_back 41 = .ok (.aload_n 0, 1) := by decide +kernel
theorem dX10_back_42 : decode cX10_back 42 = .ok (.iconst 0, 1) := by decide +kernel
theorem dX10_back_43 : decode cX10_back 43 = .ok (.putfield 172, 3) := by decide +kernel
theorem dX10_back_46 : decode cX10_back 46 = .ok (.iconst 1, 1) := by decide +kernel
theorem dX10_back_47 : decode cX10_back 47 = .ok (.ireturn, 1) := by decide +kernel
def lp_X10_back_16 (k41 : Mem → Option (Int32 × Mem)) : Nat → Int32 → Mem → Option (Int32 × Mem)
  | 0, _, _ => none
  | n + 1, x3, μ4 => if 704 ≤ x3 then (k41 μ4) else (ix x3 704 (ix x3 704 (nm (upm μ4 0 13 x3.toNatClampNeg (μ4 0 14 x3.toNatClampNeg)) fun (μ5 : Mem) => lp_X10_back_16 k41 n (x3 + 1) μ5)))
def f_X10_back (μ : Mem) : Option (Int32 × Mem) := nm (upm μ 0 12 0 0) fun (μ1 : Mem) => if (μ1 0 12 3) = 0 then (some (0, μ1)) else (lp_X10_back_16 (fun (μ2 : Mem) => nm (upm μ2 0 12 6 0) fun (μ6 : Mem) => some (1, μ6)) 4096 0 μ1)
set_option maxHeartbeats 4000000 in
set_option maxRecDepth 100000 in
theorem c_X10_back (G : GG) (l : Launch) (μ : Mem) : CI G l yX10_back (.code yX10_back cX10_back 2 (some .boolean)) 1 [.ref (gad G 0 12)] μ (f_X10_back μ) := by
  refine CI.of (own := "SaturdayKeepModel") (L0 := [some (.ref (gad G 0 12)), none]) rfl rfl rfl (Nat.le_of_ble_eq_true rfl) (fun C hl hC => ?_)
  subst hl
  delta f_X10_back
  refine aw_aload_n (pc := 0) (i := 0) hC dX10_back_0 rfl rfl ?_
  refine aw_iconst (pc := 1) (v := 0) hC dX10_back_1 ic0 ?_
  refine aw_putIN (pc := 2) hC inX10 (v0 (j := 12) (by decide)) rfl rfl 0 (by decide) kw1314 rfl tyX10 tyX10_ok nmX10 rfl rfl (Nat.le_of_ble_eq_true rfl) rfl dX10_back_2 (fun μ1 => ?_)
  refine aw_aload_n (pc := 5) (i := 0) hC dX10_back_5 rfl rfl ?_
  refine aw_get (pc := 6) hC inX10 (v0 (j := 12) (by decide)) rfl rfl 3 (by decide) kw1317 rfl rfl dX10_back_6 ?_
  refine aw_if_ne (pc := 9) (tgt := 14) hC dX10_back_9 (by decide) (fun _ => ?_) (fun _ => ?_)
  · skip
    refine aw_iconst (pc := 12) (v := 0) hC dX10_back_12 ic0 ?_
    exact aw_zret0 hC dX10_back_13
  · skip
    refine aw_iconst (pc := 14) (v := 0) hC dX10_back_14 ic0 ?_
    refine aw_istore_n (pc := 15) (i := 1) hC dX10_back_15 rfl rfl (by decide) ?_
    have hL16 : ∀ (k41 : Mem → Option (Int32 × Mem)) (hk41 : ∀ (μ2 : Mem), AW G C (qI G C 0 0) 0 0 2 μ2 41 [some (.ref (gad G 0 12)), none] [] (k41 μ2)) (n : Nat) (x3 : Int32) (μ4 : Mem), AW G C (qI G C 0 0) 0 0 2 μ4 16 [some (.ref (gad G 0 12)), some (.int x3)] [] (lp_X10_back_16 k41 n x3 μ4) := by
      intro k41 hk41 n
      induction n with
      | zero => intro x3 μ4; exact aw_none
      | succ n ih =>
        intro x3 μ4
        rw [lp_X10_back_16]
        refine aw_iload_n (pc := 16) (i := 1) hC dX10_back_16 rfl rfl ?_
        refine aw_sipush (pc := 17) (v := 704) hC dX10_back_17 sc704 ?_
        refine aw_icmp_ge (pc := 20) (tgt := 41) hC dX10_back_20 (by decide) (fun _ => ?_) (fun _ => ?_)
        · skip
          exact aw_drop [1] (hk41 μ4)
        · skip
          refine aw_aload_n (pc := 23) (i := 0) hC dX10_back_23 rfl rfl ?_
          refine aw_get (pc := 24) hC inX10 (v0 (j := 12) (by decide)) rfl rfl 1 (by decide) kw1315 rfl rfl dX10_back_24 ?_
          refine aw_iload_n (pc := 27) (i := 1) hC dX10_back_27 rfl rfl ?_
          refine aw_aload_n (pc := 28) (i := 0) hC dX10_back_28 rfl rfl ?_
          refine aw_get (pc := 29) hC inX10 (v0 (j := 12) (by decide)) rfl rfl 2 (by decide) kw1316 rfl rfl dX10_back_29 ?_
          refine aw_iload_n (pc := 32) (i := 1) hC dX10_back_32 rfl rfl ?_
          refine aw_iaload (pc := 33) hC (v0 (j := 14) (by decide)) rfl dX10_back_33 ?_
          refine aw_iastoreN (pc := 34) hC (v0 (j := 13) (by decide)) (fun _ => rfl) dX10_back_34 (fun μ5 => ?_)
          refine aw_iinc (pc := 35) (v := x3 + 1) hC dX10_back_35 rfl (congrArg (HAdd.hAdd _) ic1) rfl (by decide) ?_
          refine aw_goto (pc := 38) (tgt := 16) hC dX10_back_38 (by decide) ?_
          exact ih (x3 + 1) μ5
    refine hL16 (fun (μ2 : Mem) => nm (upm μ2 0 12 6 0) fun (μ6 : Mem) => some (1, μ6)) (fun μ2 => ?_) 4096 0 μ1
    · skip
      refine aw_aload_n (pc := 41) (i := 0) hC dX10_back_41 rfl rfl ?_
      refine aw_iconst (pc := 42) (v := 0) hC dX10_back_42 ic0 ?_
      refine aw_putIN (pc := 43) hC inX10 (v0 (j := 12) (by decide)) rfl rfl 6 (by decide) kw1320 rfl tyX10 tyX10_ok nmX10 rfl rfl (Nat.le_of_ble_eq_true rfl) rfl dX10_back_43 (fun μ6 => ?_)
      refine aw_iconst (pc := 46) (v := 1) hC dX10_back_46 ic1 ?_
      exact aw_zret1 hC dX10_back_47
theorem dX10_hereOnes_0 : decode cX10_hereOnes 0 = .ok (.iconst 0, 1) := by decide +kernel
theorem dX10_hereOnes_1 : decode cX10_hereOnes 1 = .ok (.istore_n 1, 1) := by decide +kernel
theorem dX10_hereOnes_2 : decode cX10_hereOnes 2 = .ok (.iconst 0, 1) := by decide +kernel
theorem dX10_hereOnes_3 : decode cX10_hereOnes 3 = .ok (.istore_n 2, 1) := by decide +kernel
theorem dX10_hereOnes_4 : decode cX10_hereOnes 4 = .ok (.iload_n 2, 1) := by decide +kernel
theorem dX10_hereOnes_5 : decode cX10_hereOnes 5 = .ok (.aload_n 0, 1) := by decide +kernel
theorem dX10_hereOnes_6 : decode cX10_hereOnes 6 = .ok (.getfield 7, 3) := by decide +kernel
theorem dX10_hereOnes_9 : decode cX10_hereOnes 9 = .ok (.iconst 3, 1) := by decide +kernel
theorem dX10_hereOnes_10 : decode cX10_hereOnes 10 = .ok (.iaload, 1) := by decide +kernel
theorem dX10_hereOnes_11 : decode cX10_hereOnes 11 = .ok (.if_icmp .ge 27, 3) := by decide +kernel
theorem dX10_hereOnes_14 : decode cX10_hereOnes 14 = .ok (.iload_n 1, 1) := by decide +kernel
theorem dX10_hereOnes_15 : decode cX10_hereOnes 15 = .ok (.aload_n 0, 1) := by decide +kernel
theorem dX10_hereOnes_16 : decode cX10_hereOnes 16 = .ok (.iload_n 2, 1) := by decide +kernel
theorem dX10_hereOnes_17 : decode cX10_hereOnes 17 = .ok (.invokevirtual 236, 3) := by decide +kernel
theorem dX10_hereOnes_20 : decode cX10_hereOnes 20 = .ok (.ifCond .eq 9, 3) := by decide +kernel
theorem dX10_hereOnes_23 : decode cX10_hereOnes 23 = .ok (.iconst 1, 1) := by decide +kernel
theorem dX10_hereOnes_24 : decode cX10_hereOnes 24 = .ok (.iload_n 2, 1) := by decide +kernel
theorem dX10_hereOnes_25 : decode cX10_hereOnes 25 = .ok (.ishl, 1) := by decide +kernel
theorem dX10_hereOnes_26 : decode cX10_hereOnes 26 = .ok (.goto 4, 3) := by decide +kernel
theorem dX10_hereOnes_29 : decode cX10_hereOnes 29 = .ok (.iconst 0, 1) := by decide +kernel
theorem dX10_hereOnes_30 : decode cX10_hereOnes 30 = .ok (.ior, 1) := by decide +kernel
theorem dX10_hereOnes_31 : decode cX10_hereOnes 31 = .ok (.istore_n 1, 1) := by decide +kernel
theorem dX10_hereOnes_32 : decode cX10_hereOnes 32 = .ok (.iinc 2 1, 3) := by decide +kernel
theorem dX10_hereOnes_35 : decode cX10_hereOnes 35 = .ok (.goto (-31), 3) := by decide +kernel
theorem dX10_hereOnes_38 : decode cX10_hereOnes 38 = .ok (.iload_n 1, 1) := by decide +kernel
theorem dX10_hereOnes_39 : decode cX10_hereOnes 39 = .ok (.ireturn, 1) := by decide +kernel
def lp_X10_hereOnes_4 (μ : Mem) : Nat → Int32 → Int32 → Option (Int32)
  | 0, _, _ => none
  | n + 1, x1, x2 => ix 3 704 (if (μ 0 13 (Int32.toNatClampNeg 3)) ≤ x2 then (some x1) else ((f_X10_isHere μ x2).bind fun (q3 : Int32) => if q3 = 0 then (lp_X10_hereOnes_4 μ n (x1 ||| 0) (x2 + 1)) else (lp_X10_hereOnes_4 μ n (x1 ||| (jshl 1 x2)) (x2 + 1))))
def f_X10_hereOnes (μ : Mem) : Option (Int32) := lp_X10_hereOnes_4 μ 4096 0 0
set_option maxHeartbeats 4000000 in
set_option maxRecDepth 100000 in
theorem c_X10_hereOnes (G : GG) (l : Launch) (μ : Mem) : CR G l yX10_hereOnes (.code yX10_hereOnes cX10_hereOnes 3 (some .int)) 3 [.ref (gad G 0 12)] μ (f_X10_hereOnes μ) := by
  refine CR.of (own := "SaturdayKeepModel") (L0 := [some (.ref (gad G 0 12)), none, none]) rfl rfl rfl (Nat.le_of_ble_eq_true rfl) (fun C hl hC => ?_)
  subst hl
  delta f_X10_hereOnes
  refine aw_iconst (pc := 0) (v := 0) hC dX10_hereOnes_0 ic0 ?_
  refine aw_istore_n (pc := 1) (i := 1) hC dX10_hereOnes_1 rfl rfl (by decide) ?_
  refine aw_iconst (pc := 2) (v := 0) hC dX10_hereOnes_2 ic0 ?_
  refine aw_istore_n (pc := 3) (i := 2) hC dX10_hereOnes_3 rfl rfl (by decide) ?_
  have hL4 : ∀ (n : Nat) (x1 : Int32) (x2 : Int32), AW G C (qR G C 0 0 μ) 0 0 3 μ 4 [some (.ref (gad G 0 12)), some (.int x1), some (.int x2)] [] (lp_X10_hereOnes_4 μ n x1 x2) := by
    intro n
    induction n with
    | zero => intro x1 x2; exact aw_none
    | succ n ih =>
      intro x1 x2
      rw [lp_X10_hereOnes_4]
      refine aw_iload_n (pc := 4) (i := 2) hC dX10_hereOnes_4 rfl rfl ?_
      refine aw_aload_n (pc := 5) (i := 0) hC dX10_hereOnes_5 rfl rfl ?_
      refine aw_get (pc := 6) hC inX10 (v0 (j := 12) (by decide)) rfl rfl 1 (by decide) kw1315 rfl rfl dX10_hereOnes_6 ?_
      refine aw_iconst (pc := 9) (v := 3) hC dX10_hereOnes_9 ic3 ?_
      refine aw_iaload (pc := 10) hC (v0 (j := 13) (by decide)) rfl dX10_hereOnes_10 ?_
      refine aw_icmp_ge (pc := 11) (tgt := 38) hC dX10_hereOnes_11 (by decide) (fun _ => ?_) (fun _ => ?_)
      · skip
        refine aw_iload_n (pc := 38) (i := 1) hC dX10_hereOnes_38 rfl rfl ?_
        exact aw_iretR hC dX10_hereOnes_39
      · skip
        refine aw_iload_n (pc := 14) (i := 1) hC dX10_hereOnes_14 rfl rfl ?_
        refine aw_aload_n (pc := 15) (i := 0) hC dX10_hereOnes_15 rfl rfl ?_
        refine aw_iload_n (pc := 16) (i := 2) hC dX10_hereOnes_16 rfl rfl ?_
        refine aw_callVR (pc := 17) (As := [.int x2]) hC mb_X10_isHere kw1558 (by decide) (c_X10_isHere G C.2.1   μ x2) (v0 (j := 12) (by decide)) rfl rfl rfl (Nat.le_of_ble_eq_true rfl) dX10_hereOnes_17 (fun q3 => ?_)
        refine aw_if_eq (pc := 20) (tgt := 29) hC dX10_hereOnes_20 (by decide) (fun _ => ?_) (fun _ => ?_)
        · skip
          refine aw_iconst (pc := 29) (v := 0) hC dX10_hereOnes_29 ic0 ?_
          refine aw_ior (pc := 30) hC dX10_hereOnes_30 ?_
          refine aw_istore_n (pc := 31) (i := 1) hC dX10_hereOnes_31 rfl rfl (by decide) ?_
          refine aw_iinc (pc := 32) (v := x2 + 1) hC dX10_hereOnes_32 rfl (congrArg (HAdd.hAdd _) ic1) rfl (by decide) ?_
          refine aw_goto (pc := 35) (tgt := 4) hC dX10_hereOnes_35 (by decide) ?_
          exact ih (x1 ||| 0) (x2 + 1)
        · skip
          refine aw_iconst (pc := 23) (v := 1) hC dX10_hereOnes_23 ic1 ?_
          refine aw_iload_n (pc := 24) (i := 2) hC dX10_hereOnes_24 rfl rfl ?_
          refine aw_ishl (pc := 25) hC dX10_hereOnes_25 ?_
          refine aw_goto (pc := 26) (tgt := 30) hC dX10_hereOnes_26 (by decide) ?_
          refine aw_ior (pc := 30) hC dX10_hereOnes_30 ?_
          refine aw_istore_n (pc := 31) (i := 1) hC dX10_hereOnes_31 rfl rfl (by decide) ?_
          refine aw_iinc (pc := 32) (v := x2 + 1) hC dX10_hereOnes_32 rfl (congrArg (HAdd.hAdd _) ic1) rfl (by decide) ?_
          refine aw_goto (pc := 35) (tgt := 4) hC dX10_hereOnes_35 (by decide) ?_
          exact ih (x1 ||| (jshl 1 x2)) (x2 + 1)
  exact hL4 4096 0 0
