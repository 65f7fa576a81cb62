theorem dX10_isIn_0 : decode cX10_isIn 0 = .ok (.iload_n 0, 1) := by decide +kernel
theorem dX10_isIn_1 : decode cX10_isIn 1 = .ok (.iload_n 1, 1) := by decide +kernel
theorem dX10_isIn_2 : decode cX10_isIn 2 = .ok (.if_icmp .lt 12, 3) := by decide +kernel
theorem dX10_isIn_5 : decode cX10_isIn 5 = .ok (.iload_n 0, 1) := by decide +kernel
theorem dX10_isIn_6 : decode cX10_isIn 6 = .ok (.iload_n 2, 1) := by decide +kernel
theorem dX10_isIn_7 : decode cX10_isIn 7 = .ok (.if_icmp .gt 7, 3) := by decide +kernel
theorem dX10_isIn_10 : decode cX10_isIn 10 = .ok (.iconst 1, 1) := by decide +kernel
theorem dX10_isIn_11 : decode cX10_isIn 11 = .ok (.goto 4, 3) := by decide +kernel
theorem dX10_isIn_14 : decode cX10_isIn 14 = .ok (.iconst 0, 1) := by decide +kernel
theorem dX10_isIn_15 : decode cX10_isIn 15 = .ok (.ireturn, 1) := by decide +kernel
def f_X10_isIn (a1 : Int32) (a2 : Int32) (a3 : Int32) : Option (Int32) := if a1 < a2 then (some 0) else (if a3 < a1 then (some 0) else (some 1))
set_option maxHeartbeats 4000000 in
set_option maxRecDepth 100000 in
theorem c_X10_isIn (G : GG) (l : Launch) (μ : Mem) (a1 : Int32) (a2 : Int32) (a3 : Int32) : CR G l yX10_isIn (.code yX10_isIn cX10_isIn 3 (some .boolean)) 1 [.int a1, .int a2, .int a3] μ (f_X10_isIn a1 a2 a3) := by
  refine CR.of (own := "SaturdayKeepModel") (L0 := [some (.int a1), some (.int a2), some (.int a3)]) rfl rfl rfl (Nat.le_of_ble_eq_true rfl) (fun C hl hC => ?_)
  subst hl
  delta f_X10_isIn
  refine aw_iload_n (pc := 0) (i := 0) hC dX10_isIn_0 rfl rfl ?_
  refine aw_iload_n (pc := 1) (i := 1) hC dX10_isIn_1 rfl rfl ?_
  refine aw_icmp_lt (pc := 2) (tgt := 14) hC dX10_isIn_2 (by decide) (fun _ => ?_) (fun _ => ?_)
  · skip
    refine aw_iconst (pc := 14) (v := 0) hC dX10_isIn_14 ic0 ?_
    exact aw_zret0R hC dX10_isIn_15
  · skip
    refine aw_iload_n (pc := 5) (i := 0) hC dX10_isIn_5 rfl rfl ?_
    refine aw_iload_n (pc := 6) (i := 2) hC dX10_isIn_6 rfl rfl ?_
    refine aw_icmp_gt (pc := 7) (tgt := 14) hC dX10_isIn_7 (by decide) (fun _ => ?_) (fun _ => ?_)
    · skip
      refine aw_iconst (pc := 14) (v := 0) hC dX10_isIn_14 ic0 ?_
      exact aw_zret0R hC dX10_isIn_15
    · skip
      refine aw_iconst (pc := 10) (v := 1) hC dX10_isIn_10 ic1 ?_
      refine aw_goto (pc := 11) (tgt := 15) hC dX10_isIn_11 (by decide) ?_
      exact aw_zret1R hC dX10_isIn_15
theorem dX10_letter_0 : decode cX10_letter 0 = .ok (.aload_n 0, 1) := by decide +kernel
theorem dX10_letter_1 : decode cX10_letter 1 = .ok (.getfield 64, 3) := by decide +kernel
theorem dX10_letter_4 : decode cX10_letter 4 = .ok (.iconst (-1), 1) := by decide +kernel
theorem dX10_letter_5 : decode cX10_letter 5 = .ok (.if_icmp .ne 12, 3) := by decide +kernel
theorem dX10_letter_8 : decode cX10_letter 8 = .ok (.aload_n 0, 1) := by decide +kernel
theorem dX10_letter_9 : decode cX10_letter 9 = .ok (.getfield 22, 3) := by decide +kernel
theorem dX10_letter_12 : decode cX10_letter 12 = .ok (.iload_n 1, 1) := by decide +kernel
theorem dX10_letter_13 : decode cX10_letter 13 = .ok (.iaload, 1) := by decide +kernel
theorem dX10_letter_14 : decode cX10_letter 14 = .ok (.goto 14, 3) := by decide +kernel
theorem dX10_letter_17 : decode cX10_letter 17 = .ok (.aload_n 0, 1) := by decide +kernel
theorem dX10_letter_18 : decode cX10_letter 18 = .ok (.getfield 7, 3) := by decide +kernel
theorem dX10_letter_21 : decode cX10_letter 21 = .ok (.aload_n 0, 1) := by decide +kernel
theorem dX10_letter_22 : decode cX10_letter 22 = .ok (.getfield 64, 3) := by decide +kernel
theorem dX10_letter_25 : decode cX10_letter 25 = .ok (.iload_n 1, 1) := by decide +kernel
theorem dX10_letter_26 : decode cX10_letter 26 = .ok (.iadd, 1) := by decide +kernel
theorem dX10_letter_27 : decode cX10_letter 27 = .ok (.iaload, 1) := by decide +kernel
theorem dX10_letter_28 : decode cX10_letter 28 = .ok (.ireturn, 1) := by decide +kernel
def f_X10_letter (μ : Mem) (a1 : Int32) : Option (Int32) := if (μ 0 12 9) = (-1) then (ix a1 400 (some (μ 0 17 a1.toNatClampNeg))) else (ix ((μ 0 12 9) + a1) 704 (some (μ 0 13 ((μ 0 12 9) + a1).toNatClampNeg)))
set_option maxHeartbeats 4000000 in
set_option maxRecDepth 100000 in
theorem c_X10_letter (G : GG) (l : Launch) (μ : Mem) (a1 : Int32) : CR G l yX10_letter (.code yX10_letter cX10_letter 2 (some .int)) 1 [.ref (gad G 0 12), .int a1] μ (f_X10_letter μ a1) := by
  refine CR.of (own := "SaturdayKeepModel") (L0 := [some (.ref (gad G 0 12)), some (.int a1)]) rfl rfl rfl (Nat.le_of_ble_eq_true rfl) (fun C hl hC => ?_)
  subst hl
  delta f_X10_letter
  refine aw_aload_n (pc := 0) (i := 0) hC dX10_letter_0 rfl rfl ?_
  refine aw_get (pc := 1) hC inX10 (v0 (j := 12) (by decide)) rfl rfl 9 (by decide) kw1323 rfl rfl dX10_letter_1 ?_
  refine aw_iconst (pc := 4) (v := (-1)) hC dX10_letter_4 icm1 ?_
  refine aw_icmp_ne (pc := 5) (tgt := 17) hC dX10_letter_5 (by decide) (fun _ => ?_) (fun _ => ?_)
  · skip
    refine aw_aload_n (pc := 8) (i := 0) hC dX10_letter_8 rfl rfl ?_
    refine aw_get (pc := 9) hC inX10 (v0 (j := 12) (by decide)) rfl rfl 7 (by decide) kw1321 rfl rfl dX10_letter_9 ?_
    refine aw_iload_n (pc := 12) (i := 1) hC dX10_letter_12 rfl rfl ?_
    refine aw_iaload (pc := 13) hC (v0 (j := 17) (by decide)) rfl dX10_letter_13 ?_
    refine aw_goto (pc := 14) (tgt := 28) hC dX10_letter_14 (by decide) ?_
    exact aw_iretR hC dX10_letter_28
  · skip
    refine aw_aload_n (pc := 17) (i := 0) hC dX10_letter_17 rfl rfl ?_
    refine aw_get (pc := 18) hC inX10 (v0 (j := 12) (by decide)) rfl rfl 1 (by decide) kw1315 rfl rfl dX10_letter_18 ?_
    refine aw_aload_n (pc := 21) (i := 0) hC dX10_letter_21 rfl rfl ?_
    refine aw_get (pc := 22) hC inX10 (v0 (j := 12) (by decide)) rfl rfl 9 (by decide) kw1323 rfl rfl dX10_letter_22 ?_
    refine aw_iload_n (pc := 25) (i := 1) hC dX10_letter_25 rfl rfl ?_
    refine aw_iadd (pc := 26) hC dX10_letter_26 ?_
    refine aw_iaload (pc := 27) hC (v0 (j := 13) (by decide)) rfl dX10_letter_27 ?_
    exact aw_iretR hC dX10_letter_28
theorem dX10_skip_0 : decode cX10_skip 0 = .ok (.aload_n 0, 1) := by decide +kernel
theorem dX10_skip_1 : decode cX10_skip 1 = .ok (.getfield 67, 3) := by decide +kernel
theorem dX10_skip_4 : decode cX10_skip 4 = .ok (.aload_n 0, 1) := by decide +kernel
theorem dX10_skip_5 : decode cX10_skip 5 = .ok (.getfield 70, 3) := by decide +kernel
theorem dX10_skip_8 : decode cX10_skip 8 = .ok (.if_icmp .ge 29, 3) := by decide +kernel
theorem dX10_skip_11 : decode cX10_skip 11 = .ok (.aload_n 0, 1) := by decide +kernel
theorem dX10_skip_12 : decode cX10_skip 12 = .ok (.aload_n 0, 1) := by decide +kernel
theorem dX10_skip_13 : decode cX10_skip 13 = .ok (.getfield 67, 3) := by decide +kernel
theorem dX10_skip_16 : decode cX10_skip 16 = .ok (.invokevirtual 73, 3) := by decide +kernel
theorem dX10_skip_19 : decode cX10_skip 19 = .ok (.bipush 32, 2) := by decide +kernel
theorem dX10_skip_21 : decode cX10_skip 21 = .ok (.if_icmp .ne 16, 3) := by decide +kernel
theorem dX10_skip_24 : decode cX10_skip 24 = .ok (.aload_n 0, 1) := by decide +kernel
theorem dX10_skip_25 : decode cX10_skip 25 = .ok (.dup, 1) := by decide +kernel
theorem dX10_skip_26 : decode cX10_skip 26 = .ok (.getfield 67, 3) := by decide +kernel
theorem dX10_skip_29 : decode cX10_skip 29 = .ok (.iconst 1, 1) := by decide +kernel
theorem dX10_skip_30 : decode cX10_skip 30 = .ok (.iadd, 1) := by decide +kernel
theorem dX10_skip_31 : decode cX10_skip 31 = .ok (.putfield 67, 3) := by decide +kernel
theorem dX10_skip_34 : decode cX10_skip 34 = .ok (.goto (-34), 3) := by decide +kernel
theorem dX10_skip_37 : decode cX10_skip 37 = .ok (.return_, 1) := by decide +kernel
def lp_X10_skip_0  : Nat → Mem → Option (Mem)
  | 0, _ => none
  | n + 1, μ1 => if (μ1 0 12 10) ≤ (μ1 0 12 11) then (some μ1) else ((f_X10_letter μ1 (μ1 0 12 11)).bind fun (q2 : Int32) => if q2 = 32 then (nm (upm μ1 0 12 11 ((μ1 0 12 11) + 1)) fun (μ3 : Mem) => lp_X10_skip_0 n μ3) else (some μ1))
def f_X10_skip (μ : Mem) : Option (Mem) := lp_X10_skip_0 4096 μ
set_option maxHeartbeats 4000000 in
set_option maxRecDepth 100000 in
theorem c_X10_skip (G : GG) (l : Launch) (μ : Mem) : CV G l yX10_skip (.code yX10_skip cX10_skip 1 none) 2 [.ref (gad G 0 12)] μ (f_X10_skip μ) := by
  refine CV.of (own := "SaturdayKeepModel") (L0 := [some (.ref (gad G 0 12))]) rfl rfl rfl (Nat.le_of_ble_eq_true rfl) (fun C hl hC => ?_)
  subst hl
  delta f_X10_skip
  have hL0 : ∀ (n : Nat) (μ1 : Mem), AW G C (qV G C 0 0) 0 0 1 μ1 0 [some (.ref (gad G 0 12))] [] (lp_X10_skip_0 n μ1) := by
    intro n
    induction n with
    | zero => intro μ1; exact aw_none
    | succ n ih =>
      intro μ1
      rw [lp_X10_skip_0]
      refine aw_aload_n (pc := 0) (i := 0) hC dX10_skip_0 rfl rfl ?_
      refine aw_get (pc := 1) hC inX10 (v0 (j := 12) (by decide)) rfl rfl 11 (by decide) kw1325 rfl rfl dX10_skip_1 ?_
      refine aw_aload_n (pc := 4) (i := 0) hC dX10_skip_4 rfl rfl ?_
      refine aw_get (pc := 5) hC inX10 (v0 (j := 12) (by decide)) rfl rfl 10 (by decide) kw1324 rfl rfl dX10_skip_5 ?_
      refine aw_icmp_ge (pc := 8) (tgt := 37) hC dX10_skip_8 (by decide) (fun _ => ?_) (fun _ => ?_)
      · skip
        exact aw_vret hC dX10_skip_37
      · skip
        refine aw_aload_n (pc := 11) (i := 0) hC dX10_skip_11 rfl rfl ?_
        refine aw_aload_n (pc := 12) (i := 0) hC dX10_skip_12 rfl rfl ?_
        refine aw_get (pc := 13) hC inX10 (v0 (j := 12) (by decide)) rfl rfl 11 (by decide) kw1325 rfl rfl dX10_skip_13 ?_
        refine aw_callVR (pc := 16) (As := [.int (μ1 0 12 11)]) hC mb_X10_letter kw1417 (by decide) (c_X10_letter G C.2.1   μ1 (μ1 0 12 11)) (v0 (j := 12) (by decide)) rfl rfl rfl (Nat.le_of_ble_eq_true rfl) dX10_skip_16 (fun q2 => ?_)
        refine aw_bipush (pc := 19) (v := 32) hC dX10_skip_19 bc32 ?_
        refine aw_icmp_ne (pc := 21) (tgt := 37) hC dX10_skip_21 (by decide) (fun _ => ?_) (fun _ => ?_)
        · skip
          refine aw_aload_n (pc := 24) (i := 0) hC dX10_skip_24 rfl rfl ?_
          refine aw_dup (pc := 25) hC dX10_skip_25 rfl ?_
          refine aw_get (pc := 26) hC inX10 (v0 (j := 12) (by decide)) rfl rfl 11 (by decide) kw1325 rfl rfl dX10_skip_26 ?_
          refine aw_iconst (pc := 29) (v := 1) hC dX10_skip_29 ic1 ?_
          refine aw_iadd (pc := 30) hC dX10_skip_30 ?_
          refine aw_putIN (pc := 31) hC inX10 (v0 (j := 12) (by decide)) rfl rfl 11 (by decide) kw1325 rfl tyX10 tyX10_ok nmX10 rfl rfl (Nat.le_of_ble_eq_true rfl) rfl dX10_skip_31 (fun μ3 => ?_)
          refine aw_goto (pc := 34) (tgt := 0) hC dX10_skip_34 (by decide) ?_
          exact ih μ3
        · skip
          exact aw_vret hC dX10_skip_37
  exact hL0 4096 μ
theorem dX10_wrong_0 : decode cX10_wrong 0 = .ok (.aload_n 0, 1) := by decide +kernel
theorem dX10_wrong_1 : decode cX10_wrong 1 = .ok (.getfield 25, 3) := by decide +kernel
theorem dX10_wrong_4 : decode cX10_wrong 4 = .ok (.iconst (-1), 1) := by decide +kernel
theorem dX10_wrong_5 : decode cX10_wrong 5 = .ok (.if_icmp .ne 8, 3) := by decide +kernel
theorem dX10_wrong_8 : decode cX10_wrong 8 = .ok (.aload_n 0, 1) := by decide +kernel
theorem dX10_wrong_9 : decode cX10_wrong 9 = .ok (.iload_n 1, 1) := by decide +kernel
theorem dX10_wrong_10 : decode cX10_wrong 10 = .ok (.putfield 25, 3) := by decide +kernel
theorem dX10_wrong_13 : decode cX10_wrong 13 = .ok (.return_, 1) := by decide +kernel
def f_X10_wrong (μ : Mem) (a1 : Int32) : Option (Mem) := if (μ 0 12 12) = (-1) then (nm (upm μ 0 12 12 a1) fun (μ1 : Mem) => some μ1) else (some μ)
set_option maxHeartbeats 4000000 in
set_option maxRecDepth 100000 in
theorem c_X10_wrong (G : GG) (l : Launch) (μ : Mem) (a1 : Int32) : CV G l yX10_wrong (.code yX10_wrong cX10_wrong 2 none) 1 [.ref (gad G 0 12), .int a1] μ (f_X10_wrong μ a1) := by
  refine CV.of (own := "SaturdayKeepModel") (L0 := [some (.ref (gad G 0 12)), some (.int a1)]) rfl rfl rfl (Nat.le_of_ble_eq_true rfl) (fun C hl hC => ?_)
  subst hl
  delta f_X10_wrong
  refine aw_aload_n (pc := 0) (i := 0) hC dX10_wrong_0 rfl rfl ?_
  refine aw_get (pc := 1) hC inX10 (v0 (j := 12) (by decide)) rfl rfl 12 (by decide) kw1326 rfl rfl dX10_wrong_1 ?_
  refine aw_iconst (pc := 4) (v := (-1)) hC dX10_wrong_4 icm1 ?_
  refine aw_icmp_ne (pc := 5) (tgt := 13) hC dX10_wrong_5 (by decide) (fun _ => ?_) (fun _ => ?_)
  · skip
    refine aw_aload_n (pc := 8) (i := 0) hC dX10_wrong_8 rfl rfl ?_
    refine aw_iload_n (pc := 9) (i := 1) hC dX10_wrong_9 rfl rfl ?_
    refine aw_putIN (pc := 10) hC inX10 (v0 (j := 12) (by decide)) rfl rfl 12 (by decide) kw1326 rfl tyX10 tyX10_ok nmX10 rfl rfl (Nat.le_of_ble_eq_true rfl) rfl dX10_wrong_10 (fun μ1 => ?_)
    exact aw_vret hC dX10_wrong_13
  · skip
    exact aw_vret hC dX10_wrong_13
theorem dX10_has_0 : decode cX10_has 0 = .ok (.aload_n 0, 1) := by decide +kernel
theorem dX10_has_1 : decode cX10_has 1 = .ok (.invokevirtual 76, 3) := by decide +kernel
theorem dX10_has_4 : decode cX10_has 4 = .ok (.aload_n 0, 1) := by decide +kernel
theorem dX10_has_5 : decode cX10_has 5 = .ok (.getfield 67, 3) := by decide +kernel
theorem dX10_has_8 : decode cX10_has 8 = .ok (.istore_n 2, 1) := by decide +kernel
theorem dX10_has_9 : decode cX10_has 9 = .ok (.iload_n 2, 1) := by decide +kernel
theorem dX10_has_10 : decode cX10_has 10 = .ok (.aload_n 0, 1) := by decide +kernel
theorem dX10_has_11 : decode cX10_has 11 = .ok (.getfield 70, 3) := by decide +kernel
theorem dX10_has_14 : decode cX10_has 14 = .ok (.if_icmp .ge 24, 3) := by decide +kernel
theorem dX10_has_17 : decode cX10_has 17 = .ok (.aload_n 0, 1) := by decide +kernel
theorem dX10_has_18 : decode cX10_has 18 = .ok (.iload_n 2, 1) := by decide +kernel
theorem dX10_has_19 : decode cX10_has 19 = .ok (.invokevirtual 73, 3) := by decide +kernel
theorem dX10_has_22 : decode cX10_has 22 = .ok (.bipush 97, 2) := by decide +kernel
theorem dX10_has_24 : decode cX10_has 24 = .ok (.bipush 122, 2) := by decide +kernel
theorem dX10_has_26 : decode cX10_has 26 = .ok (.invokestatic 45, 3) := by decide +kernel
theorem dX10_has_29 : decode cX10_has 29 = .ok (.ifCond .eq 9, 3) := by decide +kernel
theorem dX10_has_32 : decode cX10_has 32 = .ok (.iinc 2 1, 3) := by decide +kernel
theorem dX10_has_35 : decode cX10_has 35 = .ok (.goto (-26), 3) := by decide +kernel
theorem dX10_has_38 : decode cX10_has 38 = .ok (.iload_n 2, 1) := by decide +kernel
theorem dX10_has_39 : decode cX10_has 39 = .ok (.aload_n 0, 1) := by decide +kernel
theorem dX10_has_40 : decode cX10_has 40 = .ok (.getfield 67, 3) := by decide +kernel
theorem dX10_has_43 : decode cX10_has 43 = .ok (.isub, 1) := by decide +kernel
theorem dX10_has_44 : decode cX10_has 44 = .ok (.aload_n 1, 1) := by decide +kernel
theorem dX10_has_45 : decode cX10_has 45 = .ok (.invokevirtual 79, 3) := by decide +kernel
theorem dX10_has_48 : decode cX10_has 48 = .ok (.if_icmp .eq 5, 3) := by decide +kernel
theorem dX10_has_51 : decode cX10_has 51 = .ok (.iconst 0, 1) := by decide +kernel
theorem dX10_has_52 : decode cX10_has 52 = .ok (.ireturn, 1) := by decide +kernel
theorem dX10_has_53 : decode cX10_has 53 = .ok (.iconst 0, 1) := by decide +kernel
theorem dX10_has_54 : decode cX10_has 54 = .ok (.istore_n 3, 1) := by decide +kernel
theorem dX10_has_55 : decode cX10_has 55 = .ok (.iload_n 3, 1) := by decide +kernel
theorem dX10_has_56 : decode cX10_has 56 = .ok (.aload_n 1, 1) := by decide +kernel
theorem dX10_has_57 : decode cX10_has 57 = .ok (.invokevirtual 79, 3) := by decide +kernel
theorem dX10_has_60 : decode cX10_has 60 = .ok (.if_icmp .ge 29, 3) := by decide +kernel
theorem dX10_has_63 : decode cX10_has 63 = .ok (.aload_n 0, 1) := by decide +kernel
theorem dX10_has_64 : decode cX10_has 64 = .ok (.aload_n 0, 1) := by decide +kernel
theorem dX10_has_65 : decode cX10_has 65 = .ok (.getfield 67, 3) := by decide +kernel
theorem dX10_has_68 : decode cX10_has 68 = .ok (.iload_n 3, 1) := by decide +kernel
theorem dX10_has_69 : decode cX10_has 69 = .ok (.iadd, 1) := by decide +kernel
theorem dX10_has_70 : decode cX10_has 70 = .ok (.invokevirtual 73, 3) := by decide +kernel
theorem dX10_has_73 : decode cX10_has 73 = .ok (.aload_n 1, 1) := by decide +kernel
theorem dX10_has_74 : decode cX10_has 74 = .ok (.iload_n 3, 1) := by decide +kernel
theorem dX10_has_75 : decode cX10_has 75 = .ok (.invokevirtual 85, 3) := by decide +kernel
theorem dX10_has_78 : decode cX10_has 78 = .ok (.if_icmp .eq 5, 3) := by decide +kernel
theorem dX10_has_81 : decode cX10_has 81 = .ok (.iconst 0, 1) := by decide +kernel
theorem dX10_has_82 : decode cX10_has 82 = .ok (.ireturn, 1) := by decide +kernel
theorem dX10_has_83 : decode cX10_has 83 = .ok (.iinc 3 1, 3) := by decide +kernel
theorem dX10_has_86 : decode cX10_has 86 = .ok (.goto (-31), 3) := by decide +kernel
theorem dX10_has_89 : decode cX10_has 89 = .ok (.aload_n 0, 1) := by decide +kernel
theorem dX10_has_90 : decode cX10_has 90 = .ok (.iload_n 2, 1) := by decide +kernel
theorem dX10_has_91 : decode cX10_has 91 = .ok (.putfield 67, 3) := by decide +kernel
theorem dX10_has_94 : decode cX10_has 94 = .ok (.iconst 1, 1) := by decide +kernel
theorem dX10_has_95 : decode cX10_has 95 = .ok (.ireturn, 1) := by decide +kernel
def lp_X10_has_9 (q1 : Mem) (k38 : Int32 → Option (Int32 × Mem)) : Nat → Int32 → Option (Int32 × Mem)
  | 0, _ => none
  | n + 1, x3 => if (q1 0 12 10) ≤ x3 then (k38 x3) else ((f_X10_letter q1 x3).bind fun (q4 : Int32) => (f_X10_isIn q4 97 122).bind fun (q5 : Int32) => if q5 = 0 then (k38 x3) else (lp_X10_has_9 q1 k38 n (x3 + 1)))
def lp_X10_has_55 (a1 : Nat) (q1 : Mem) (k89 : Option (Int32 × Mem)) : Nat → Int32 → Option (Int32 × Mem)
  | 0, _ => none
  | n + 1, x7 => (f_J0_length_8abf5 a1).bind fun (q8 : Int32) => if q8 ≤ x7 then (k89) else ((f_X10_letter q1 ((q1 0 12 11) + x7)).bind fun (q9 : Int32) => (f_J0_charAt_5068e a1 q1 x7).bind fun (q10 : Int32) => if q9 = q10 then (lp_X10_has_55 a1 q1 k89 n (x7 + 1)) else (some (0, q1)))
def f_X10_has (a1 : Nat) (μ : Mem) : Option (Int32 × Mem) := (f_X10_skip μ).bind fun (q1 : Mem) => lp_X10_has_9 q1 (fun (x2 : Int32) => (f_J0_length_8abf5 a1).bind fun (q6 : Int32) => if (x2 - (q1 0 12 11)) = q6 then (lp_X10_has_55 a1 q1 (nm (upm q1 0 12 11 x2) fun (μ11 : Mem) => some (1, μ11)) 4096 0) else (some (0, q1))) 4096 (q1 0 12 11)
set_option maxHeartbeats 4000000 in
set_option maxRecDepth 100000 in
theorem c_X10_has (G : GG) (l : Launch) (a1 : Nat) (ha1 : a1 < 68) (μ : Mem) : CI G l yX10_has (.code yX10_has cX10_has 4 (some .boolean)) 10 [.ref (gad G 0 12), .ref (gsK G a1)] μ (f_X10_has a1 μ) := by
  refine CI.of (own := "SaturdayKeepModel") (L0 := [some (.ref (gad G 0 12)), some (.ref (gsK G a1)), none, none]) rfl rfl rfl (Nat.le_of_ble_eq_true rfl) (fun C hl hC => ?_)
  subst hl
  delta f_X10_has
  refine aw_aload_n (pc := 0) (i := 0) hC dX10_has_0 rfl rfl ?_
  refine aw_callVV (pc := 1) (As := []) hC mb_X10_skip kw1413 (by decide) (c_X10_skip G C.2.1   μ ) (v0 (j := 12) (by decide)) rfl rfl rfl (Nat.le_of_ble_eq_true rfl) dX10_has_1 (fun q1 => ?_)
  refine aw_aload_n (pc := 4) (i := 0) hC dX10_has_4 rfl rfl ?_
  refine aw_get (pc := 5) hC inX10 (v0 (j := 12) (by decide)) rfl rfl 11 (by decide) kw1325 rfl rfl dX10_has_5 ?_
  refine aw_istore_n (pc := 8) (i := 2) hC dX10_has_8 rfl rfl (by decide) ?_
  have hL9 : ∀ (k38 : Int32 → Option (Int32 × Mem)) (hk38 : ∀ (x2 : Int32), AW G C (qI G C 0 0) 0 0 4 q1 38 [some (.ref (gad G 0 12)), some (.ref (gsK G a1)), some (.int x2), none] [] (k38 x2)) (n : Nat) (x3 : Int32), AW G C (qI G C 0 0) 0 0 4 q1 9 [some (.ref (gad G 0 12)), some (.ref (gsK G a1)), some (.int x3), none] [] (lp_X10_has_9 q1 k38 n x3) := by
    intro k38 hk38 n
    induction n with
    | zero => intro x3; exact aw_none
    | succ n ih =>
      intro x3
      rw [lp_X10_has_9]
      refine aw_iload_n (pc := 9) (i := 2) hC dX10_has_9 rfl rfl ?_
      refine aw_aload_n (pc := 10) (i := 0) hC dX10_has_10 rfl rfl ?_
      refine aw_get (pc := 11) hC inX10 (v0 (j := 12) (by decide)) rfl rfl 10 (by decide) kw1324 rfl rfl dX10_has_11 ?_
      refine aw_icmp_ge (pc := 14) (tgt := 38) hC dX10_has_14 (by decide) (fun _ => ?_) (fun _ => ?_)
      · skip
        exact hk38 x3
      · skip
        refine aw_aload_n (pc := 17) (i := 0) hC dX10_has_17 rfl rfl ?_
        refine aw_iload_n (pc := 18) (i := 2) hC dX10_has_18 rfl rfl ?_
        refine aw_callVR (pc := 19) (As := [.int x3]) hC mb_X10_letter kw1417 (by decide) (c_X10_letter G C.2.1   q1 x3) (v0 (j := 12) (by decide)) rfl rfl rfl (Nat.le_of_ble_eq_true rfl) dX10_has_19 (fun q4 => ?_)
        refine aw_bipush (pc := 22) (v := 97) hC dX10_has_22 bc97 ?_
        refine aw_bipush (pc := 24) (v := 122) hC dX10_has_24 bc122 ?_
        refine aw_callSR (pc := 26) (As := [.int q4, .int 97, .int 122]) hC ms_X10_isIn kw1394 (by decide) (c_X10_isIn G C.2.1   q1 q4 97 122) rfl (Nat.le_of_ble_eq_true rfl) dX10_has_26 (fun q5 => ?_)
        refine aw_if_eq (pc := 29) (tgt := 38) hC dX10_has_29 (by decide) (fun _ => ?_) (fun _ => ?_)
        · skip
          exact hk38 x3
        · skip
          refine aw_iinc (pc := 32) (v := x3 + 1) hC dX10_has_32 rfl (congrArg (HAdd.hAdd _) ic1) rfl (by decide) ?_
          refine aw_goto (pc := 35) (tgt := 9) hC dX10_has_35 (by decide) ?_
          exact ih (x3 + 1)
  refine hL9 (fun (x2 : Int32) => (f_J0_length_8abf5 a1).bind fun (q6 : Int32) => if (x2 - (q1 0 12 11)) = q6 then (lp_X10_has_55 a1 q1 (nm (upm q1 0 12 11 x2) fun (μ11 : Mem) => some (1, μ11)) 4096 0) else (some (0, q1))) (fun x2 => ?_) 4096 (q1 0 12 11)
  · skip
    refine aw_iload_n (pc := 38) (i := 2) hC dX10_has_38 rfl rfl ?_
    refine aw_aload_n (pc := 39) (i := 0) hC dX10_has_39 rfl rfl ?_
    refine aw_get (pc := 40) hC inX10 (v0 (j := 12) (by decide)) rfl rfl 11 (by decide) kw1325 rfl rfl dX10_has_40 ?_
    refine aw_isub (pc := 43) hC dX10_has_43 ?_
    refine aw_aload_n (pc := 44) (i := 1) hC dX10_has_44 rfl rfl ?_
    refine aw_callTR (pc := 45) (As := []) hC mb_J0_length_8abf5 kw1434 (by decide) (c_J0_length_8abf5 G C.2.1 a1 ha1 q1 ) ha1 rfl rfl (Nat.le_of_ble_eq_true rfl) dX10_has_45 (fun q6 => ?_)
    refine aw_icmp_eq (pc := 48) (tgt := 53) hC dX10_has_48 (by decide) (fun _ => ?_) (fun _ => ?_)
    · skip
      refine aw_iconst (pc := 53) (v := 0) hC dX10_has_53 ic0 ?_
      refine aw_istore_n (pc := 54) (i := 3) hC dX10_has_54 rfl rfl (by decide) ?_
      have hL55 : ∀ (k89 : Option (Int32 × Mem)) (hk89 : AW G C (qI G C 0 0) 0 0 4 q1 89 [some (.ref (gad G 0 12)), none, some (.int x2), none] [] (k89)) (n : Nat) (x7 : Int32), AW G C (qI G C 0 0) 0 0 4 q1 55 [some (.ref (gad G 0 12)), some (.ref (gsK G a1)), some (.int x2), some (.int x7)] [] (lp_X10_has_55 a1 q1 k89 n x7) := by
        intro k89 hk89 n
        induction n with
        | zero => intro x7; exact aw_none
        | succ n ih =>
          intro x7
          rw [lp_X10_has_55]
          refine aw_iload_n (pc := 55) (i := 3) hC dX10_has_55 rfl rfl ?_
          refine aw_aload_n (pc := 56) (i := 1) hC dX10_has_56 rfl rfl ?_
          refine aw_callTR (pc := 57) (As := []) hC mb_J0_length_8abf5 kw1434 (by decide) (c_J0_length_8abf5 G C.2.1 a1 ha1 q1 ) ha1 rfl rfl (Nat.le_of_ble_eq_true rfl) dX10_has_57 (fun q8 => ?_)
          refine aw_icmp_ge (pc := 60) (tgt := 89) hC dX10_has_60 (by decide) (fun _ => ?_) (fun _ => ?_)
          · skip
            exact aw_drop [1, 3] (hk89)
          · skip
            refine aw_aload_n (pc := 63) (i := 0) hC dX10_has_63 rfl rfl ?_
            refine aw_aload_n (pc := 64) (i := 0) hC dX10_has_64 rfl rfl ?_
            refine aw_get (pc := 65) hC inX10 (v0 (j := 12) (by decide)) rfl rfl 11 (by decide) kw1325 rfl rfl dX10_has_65 ?_
            refine aw_iload_n (pc := 68) (i := 3) hC dX10_has_68 rfl rfl ?_
            refine aw_iadd (pc := 69) hC dX10_has_69 ?_
            refine aw_callVR (pc := 70) (As := [.int ((q1 0 12 11) + x7)]) hC mb_X10_letter kw1417 (by decide) (c_X10_letter G C.2.1   q1 ((q1 0 12 11) + x7)) (v0 (j := 12) (by decide)) rfl rfl rfl (Nat.le_of_ble_eq_true rfl) dX10_has_70 (fun q9 => ?_)
            refine aw_aload_n (pc := 73) (i := 1) hC dX10_has_73 rfl rfl ?_
            refine aw_iload_n (pc := 74) (i := 3) hC dX10_has_74 rfl rfl ?_
            refine aw_callTR (pc := 75) (As := [.int x7]) hC mb_J0_charAt_5068e kw1435 (by decide) (c_J0_charAt_5068e G C.2.1 a1 ha1 q1 x7) ha1 rfl rfl (Nat.le_of_ble_eq_true rfl) dX10_has_75 (fun q10 => ?_)
            refine aw_icmp_eq (pc := 78) (tgt := 83) hC dX10_has_78 (by decide) (fun _ => ?_) (fun _ => ?_)
            · skip
              refine aw_iinc (pc := 83) (v := x7 + 1) hC dX10_has_83 rfl (congrArg (HAdd.hAdd _) ic1) rfl (by decide) ?_
              refine aw_goto (pc := 86) (tgt := 55) hC dX10_has_86 (by decide) ?_
              exact ih (x7 + 1)
            · skip
              refine aw_iconst (pc := 81) (v := 0) hC dX10_has_81 ic0 ?_
              exact aw_zret0 hC dX10_has_82
      refine hL55 (nm (upm q1 0 12 11 x2) fun (μ11 : Mem) => some (1, μ11)) ?_ 4096 0
      · skip
        refine aw_aload_n (pc := 89) (i := 0) hC dX10_has_89 rfl rfl ?_
        refine aw_iload_n (pc := 90) (i := 2) hC dX10_has_90 rfl rfl ?_
        refine aw_putIN (pc := 91) hC inX10 (v0 (j := 12) (by decide)) rfl rfl 11 (by decide) kw1325 rfl tyX10 tyX10_ok nmX10 rfl rfl (Nat.le_of_ble_eq_true rfl) rfl dX10_has_91 (fun μ11 => ?_)
        refine aw_iconst (pc := 94) (v := 1) hC dX10_has_94 ic1 ?_
        exact aw_zret1 hC dX10_has_95
    · skip
      refine aw_iconst (pc := 51) (v := 0) hC dX10_has_51 ic0 ?_
      exact aw_zret0 hC dX10_has_52
theorem dX10_place_0 : decode cX10_place 0 = .ok (.aload_n 0, 1) := by decide +kernel
theorem dX10_place_1 : decode cX10_place 1 = .ok (.invokevirtual 76, 3) := by decide +kernel
theorem dX10_place_4 : decode cX10_place 4 = .ok (.aload_n 0, 1) := by decide +kernel
theorem dX10_place_5 : decode cX10_place 5 = .ok (.getfield 67, 3) := by decide +kernel
theorem dX10_place_8 : decode cX10_place 8 = .ok (.ireturn, 1) := by decide +kernel
def f_X10_place (μ : Mem) : Option (Int32 × Mem) := (f_X10_skip μ).bind fun (q1 : Mem) => some ((q1 0 12 11), q1)
set_option maxHeartbeats 4000000 in
set_option maxRecDepth 100000 in
theorem c_X10_place (G : GG) (l : Launch) (μ : Mem) : CI G l yX10_place (.code yX10_place cX10_place 1 (some .int)) 3 [.ref (gad G 0 12)] μ (f_X10_place μ) := by
  refine CI.of (own := "SaturdayKeepModel") (L0 := [some (.ref (gad G 0 12))]) rfl rfl rfl (Nat.le_of_ble_eq_true rfl) (fun C hl hC => ?_)
  subst hl
  delta f_X10_place
  refine aw_aload_n (pc := 0) (i := 0) hC dX10_place_0 rfl rfl ?_
  refine aw_callVV (pc := 1) (As := []) hC mb_X10_skip kw1413 (by decide) (c_X10_skip G C.2.1   μ ) (v0 (j := 12) (by decide)) rfl rfl rfl (Nat.le_of_ble_eq_true rfl) dX10_place_1 (fun q1 => ?_)
  refine aw_aload_n (pc := 4) (i := 0) hC dX10_place_4 rfl rfl ?_
  refine aw_get (pc := 5) hC inX10 (v0 (j := 12) (by decide)) rfl rfl 11 (by decide) kw1325 rfl rfl dX10_place_5 ?_
  exact aw_iret hC dX10_place_8
theorem dX10_figures_0 : decode cX10_figures 0 = .ok (.aload_n 0, 1) := by decide +kernel
theorem dX10_figures_1 : decode cX10_figures 1 = .ok (.getfield 25, 3) := by decide +kernel
theorem dX10_figures_4 : decode cX10_figures 4 = .ok (.iconst (-1), 1) := by decide +kernel
theorem dX10_figures_5 : decode cX10_figures 5 = .ok (.if_icmp .eq 5, 3) := by decide +kernel
theorem dX10_figures_8 : decode cX10_figures 8 = .ok (.iconst 0, 1) := by decide +kernel
theorem dX10_figures_9 : decode cX10_figures 9 = .ok (.ireturn, 1) := by decide +kernel
theorem dX10_figures_10 : decode cX10_figures 10 = .ok (.aload_n 0, 1) := by decide +kernel
theorem dX10_figures_11 : decode cX10_figures 11 = .ok (.invokevirtual 89, 3) := by decide +kernel
theorem dX10_figures_14 : decode cX10_figures 14 = .ok (.istore_n 3, 1) := by decide +kernel
theorem dX10_figures_15 : decode cX10_figures 15 = .ok (.iconst 0, 1) := by decide +kernel
theorem dX10_figures_16 : decode cX10_figures 16 = .ok (.istore 4, 2) := by decide +kernel
theorem dX10_figures_18 : decode cX10_figures 18 = .ok (.aload_n 0, 1) := by decide +kernel
theorem dX10_figures_19 : decode cX10_figures 19 = .ok (.getfield 67, 3) := by decide +kernel
theorem dX10_figures_22 : decode cX10_figures 22 = .ok (.aload_n 0, 1) := by decide +kernel
theorem dX10_figures_23 : decode cX10_figures 23 = .ok (.getfield 70, 3) := by decide +kernel
theorem dX10_figures_26 : decode cX10_figures 26 = .ok (.if_icmp .ge 63, 3) := by decide +kernel
theorem dX10_figures_29 : decode cX10_figures 29 = .ok (.aload_n 0, 1) := by decide +kernel
theorem dX10_figures_30 : decode cX10_figures 30 = .ok (.aload_n 0, 1) := by decide +kernel
theorem dX10_figures_31 : decode cX10_figures 31 = .ok (.getfield 67, 3) := by decide +kernel
theorem dX10_figures_34 : decode cX10_figures 34 = .ok (.invokevirtual 73, 3) := by decide +kernel
theorem dX10_figures_37 : decode cX10_figures 37 = .ok (.bipush 48, 2) := by decide +kernel
theorem dX10_figures_39 : decode cX10_figures 39 = .ok (.bipush 57, 2) := by decide +kernel
theorem dX10_figures_41 : decode cX10_figures 41 = .ok (.invokestatic 45, 3) := by decide +kernel
theorem dX10_figures_44 : decode cX10_figures 44 = .ok (.ifCond .eq 45, 3) := by decide +kernel
theorem dX10_figures_47 : decode cX10_figures 47 = .ok (.aload_n 0, 1) := by decide +kernel
theorem dX10_figures_48 : decode cX10_figures 48 = .ok (.getfield 67, 3) := by decide +kernel
theorem dX10_figures_51 : decode cX10_figures 51 = .ok (.iload_n 3, 1) := by decide +kernel
theorem dX10_figures_52 : decode cX10_figures 52 = .ok (.isub, 1) := by decide +kernel
theorem dX10_figures_53 : decode cX10_figures 53 = .ok (.iconst 3, 1) := by decide +kernel
theorem dX10_figures_54 : decode cX10_figures 54 = .ok (.if_icmp .gt 35, 3) := by decide +kernel
theorem dX10_figures_57 : decode cX10_figures 57 = .ok (.bipush 10, 2) := by decide +kernel
theorem dX10_figures_59 : decode cX10_figures 59 = .ok (.iload 4, 2) := by decide +kernel
theorem dX10_figures_61 : decode cX10_figures 61 = .ok (.imul, 1) := by decide +kernel
theorem dX10_figures_62 : decode cX10_figures 62 = .ok (.aload_n 0, 1) := by decide +kernel
theorem dX10_figures_63 : decode cX10_figures 63 = .ok (.aload_n 0, 1) := by decide +kernel
theorem dX10_figures_64 : decode cX10_figures 64 = .ok (.getfield 67, 3) := by decide +kernel
theorem dX10_figures_67 : decode cX10_figures 67 = .ok (.invokevirtual 73, 3) := by decide +kernel
theorem dX10_figures_70 : decode cX10_figures 70 = .ok (.iadd, 1) := by decide +kernel
theorem dX10_figures_71 : decode cX10_figures 71 = .ok (.bipush 48, 2) := by decide +kernel
theorem dX10_figures_73 : decode cX10_figures 73 = .ok (.isub, 1) := by decide +kernel
theorem dX10_figures_74 : decode cX10_figures 74 = .ok (.istore 4, 2) := by decide +kernel
theorem dX10_figures_76 : decode cX10_figures 76 = .ok (.aload_n 0, 1) := by decide +kernel
theorem dX10_figures_77 : decode cX10_figures 77 = .ok (.dup, 1) := by decide +kernel
theorem dX10_figures_78 : decode cX10_figures 78 = .ok (.getfield 67, 3) := by decide +kernel
theorem dX10_figures_81 : decode cX10_figures 81 = .ok (.iconst 1, 1) := by decide +kernel
theorem dX10_figures_82 : decode cX10_figures 82 = .ok (.iadd, 1) := by decide +kernel
theorem dX10_figures_83 : decode cX10_figures 83 = .ok (.putfield 67, 3) := by decide +kernel
theorem dX10_figures_86 : decode cX10_figures 86 = .ok (.goto (-68), 3) := by decide +kernel
theorem dX10_figures_89 : decode cX10_figures 89 = .ok (.aload_n 0, 1) := by decide +kernel
theorem dX10_figures_90 : decode cX10_figures 90 = .ok (.getfield 67, 3) := by decide +kernel
theorem dX10_figures_93 : decode cX10_figures 93 = .ok (.iload_n 3, 1) := by decide +kernel
theorem dX10_figures_94 : decode cX10_figures 94 = .ok (.if_icmp .eq 25, 3) := by decide +kernel
theorem dX10_figures_97 : decode cX10_figures 97 = .ok (.aload_n 0, 1) := by decide +kernel
theorem dX10_figures_98 : decode cX10_figures 98 = .ok (.getfield 67, 3) := by decide +kernel
theorem dX10_figures_101 : decode cX10_figures 101 = .ok (.iload_n 3, 1) := by decide +kernel
theorem dX10_figures_102 : decode cX10_figures 102 = .ok (.isub, 1) := by decide +kernel
theorem dX10_figures_103 : decode cX10_figures 103 = .ok (.iconst 3, 1) := by decide +kernel
theorem dX10_figures_104 : decode cX10_figures 104 = .ok (.if_icmp .gt 15, 3) := by decide +kernel
theorem dX10_figures_107 : decode cX10_figures 107 = .ok (.iload 4, 2) := by decide +kernel
theorem dX10_figures_109 : decode cX10_figures 109 = .ok (.iload_n 1, 1) := by decide +kernel
theorem dX10_figures_110 : decode cX10_figures 110 = .ok (.if_icmp .lt 9, 3) := by decide +kernel
theorem dX10_figures_113 : decode cX10_figures 113 = .ok (.iload 4, 2) := by decide +kernel
theorem dX10_figures_115 : decode cX10_figures 115 = .ok (.iload_n 2, 1) := by decide +kernel
theorem dX10_figures_116 : decode cX10_figures 116 = .ok (.if_icmp .le 8, 3) := by decide +kernel
theorem dX10_figures_119 : decode cX10_figures 119 = .ok (.aload_n 0, 1) := by decide +kernel
theorem dX10_figures_120 : decode cX10_figures 120 = .ok (.iload_n 3, 1) := by decide +kernel
theorem dX10_figures_121 : decode cX10_figures 121 = .ok (.invokevirtual 92, 3) := by decide +kernel
theorem dX10_figures_124 : decode cX10_figures 124 = .ok (.iload 4, 2) := by decide +kernel
theorem dX10_figures_126 : decode cX10_figures 126 = .ok (.ireturn, 1) := by decide +kernel
def lp_X10_figures_18 (q1 : Int32 × Mem) (k89 : Int32 → Mem → Option (Int32 × Mem)) : Nat → Int32 → Mem → Option (Int32 × Mem)
  | 0, _, _ => none
  | n + 1, x4, μ5 => if (μ5 0 12 10) ≤ (μ5 0 12 11) then (k89 x4 μ5) else ((f_X10_letter μ5 (μ5 0 12 11)).bind fun (q6 : Int32) => (f_X10_isIn q6 48 57).bind fun (q7 : Int32) => if q7 = 0 then (k89 x4 μ5) else (if 3 < ((μ5 0 12 11) - q1.1) then (k89 x4 μ5) else ((f_X10_letter μ5 (μ5 0 12 11)).bind fun (q8 : Int32) => nm (upm μ5 0 12 11 ((μ5 0 12 11) + 1)) fun (μ9 : Mem) => lp_X10_figures_18 q1 k89 n (((10 * x4) + q8) - 48) μ9)))
def f_X10_figures (μ : Mem) (a1 : Int32) (a2 : Int32) : Option (Int32 × Mem) := if (μ 0 12 12) = (-1) then ((f_X10_place μ).bind fun (q1 : Int32 × Mem) => lp_X10_figures_18 q1 (fun (x2 : Int32) (μ3 : Mem) => nm ((f_X10_wrong μ3 q1.1).bind fun (q10 : Mem) => some (x2, q10)) fun (J119 : Option (Int32 × Mem)) => if (μ3 0 12 11) = q1.1 then (J119) else (if 3 < ((μ3 0 12 11) - q1.1) then (J119) else (if x2 < a1 then (J119) else (if x2 ≤ a2 then (some (x2, μ3)) else (J119))))) 4096 0 q1.2) else (some (0, μ))
set_option maxHeartbeats 4000000 in
set_option maxRecDepth 100000 in
theorem c_X10_figures (G : GG) (l : Launch) (μ : Mem) (a1 : Int32) (a2 : Int32) : CI G l yX10_figures (.code yX10_figures cX10_figures 5 (some .int)) 4 [.ref (gad G 0 12), .int a1, .int a2] μ (f_X10_figures μ a1 a2) := by
  refine CI.of (own := "SaturdayKeepModel") (L0 := [some (.ref (gad G 0 12)), some (.int a1), some (.int a2), none, none]) rfl rfl rfl (Nat.le_of_ble_eq_true rfl) (fun C hl hC => ?_)
  subst hl
  delta f_X10_figures
  refine aw_aload_n (pc := 0) (i := 0) hC dX10_figures_0 rfl rfl ?_
  refine aw_get (pc := 1) hC inX10 (v0 (j := 12) (by decide)) rfl rfl 12 (by decide) kw1326 rfl rfl dX10_figures_1 ?_
  refine aw_iconst (pc := 4) (v := (-1)) hC dX10_figures_4 icm1 ?_
  refine aw_icmp_eq (pc := 5) (tgt := 10) hC dX10_figures_5 (by decide) (fun _ => ?_) (fun _ => ?_)
  · skip
    refine aw_aload_n (pc := 10) (i := 0) hC dX10_figures_10 rfl rfl ?_
    refine aw_callVI (pc := 11) (As := []) hC mb_X10_place kw1441 (by decide) (c_X10_place G C.2.1   μ ) (v0 (j := 12) (by decide)) rfl rfl rfl (Nat.le_of_ble_eq_true rfl) dX10_figures_11 (fun q1 => ?_)
    refine aw_istore_n (pc := 14) (i := 3) hC dX10_figures_14 rfl rfl (by decide) ?_
    refine aw_iconst (pc := 15) (v := 0) hC dX10_figures_15 ic0 ?_
    refine aw_istore (pc := 16) hC dX10_figures_16 rfl (by decide) ?_
    have hL18 : ∀ (k89 : Int32 → Mem → Option (Int32 × Mem)) (hk89 : ∀ (x2 : Int32) (μ3 : Mem), AW G C (qI G C 0 0) 0 0 5 μ3 89 [some (.ref (gad G 0 12)), some (.int a1), some (.int a2), some (.int q1.1), some (.int x2)] [] (k89 x2 μ3)) (n : Nat) (x4 : Int32) (μ5 : Mem), AW G C (qI G C 0 0) 0 0 5 μ5 18 [some (.ref (gad G 0 12)), some (.int a1), some (.int a2), some (.int q1.1), some (.int x4)] [] (lp_X10_figures_18 q1 k89 n x4 μ5) := by
      intro k89 hk89 n
      induction n with
      | zero => intro x4 μ5; exact aw_none
      | succ n ih =>
        intro x4 μ5
        rw [lp_X10_figures_18]
        refine aw_aload_n (pc := 18) (i := 0) hC dX10_figures_18 rfl rfl ?_
        refine aw_get (pc := 19) hC inX10 (v0 (j := 12) (by decide)) rfl rfl 11 (by decide) kw1325 rfl rfl dX10_figures_19 ?_
        refine aw_aload_n (pc := 22) (i := 0) hC dX10_figures_22 rfl rfl ?_
        refine aw_get (pc := 23) hC inX10 (v0 (j := 12) (by decide)) rfl rfl 10 (by decide) kw1324 rfl rfl dX10_figures_23 ?_
        refine aw_icmp_ge (pc := 26) (tgt := 89) hC dX10_figures_26 (by decide) (fun _ => ?_) (fun _ => ?_)
        · skip
          exact hk89 x4 μ5
        · skip
          refine aw_aload_n (pc := 29) (i := 0) hC dX10_figures_29 rfl rfl ?_
          refine aw_aload_n (pc := 30) (i := 0) hC dX10_figures_30 rfl rfl ?_
          refine aw_get (pc := 31) hC inX10 (v0 (j := 12) (by decide)) rfl rfl 11 (by decide) kw1325 rfl rfl dX10_figures_31 ?_
          refine aw_callVR (pc := 34) (As := [.int (μ5 0 12 11)]) hC mb_X10_letter kw1417 (by decide) (c_X10_letter G C.2.1   μ5 (μ5 0 12 11)) (v0 (j := 12) (by decide)) rfl rfl rfl (Nat.le_of_ble_eq_true rfl) dX10_figures_34 (fun q6 => ?_)
          refine aw_bipush (pc := 37) (v := 48) hC dX10_figures_37 bc48 ?_
          refine aw_bipush (pc := 39) (v := 57) hC dX10_figures_39 bc57 ?_
          refine aw_callSR (pc := 41) (As := [.int q6, .int 48, .int 57]) hC ms_X10_isIn kw1394 (by decide) (c_X10_isIn G C.2.1   μ5 q6 48 57) rfl (Nat.le_of_ble_eq_true rfl) dX10_figures_41 (fun q7 => ?_)
          refine aw_if_eq (pc := 44) (tgt := 89) hC dX10_figures_44 (by decide) (fun _ => ?_) (fun _ => ?_)
          · skip
            exact hk89 x4 μ5
          · skip
            refine aw_aload_n (pc := 47) (i := 0) hC dX10_figures_47 rfl rfl ?_
            refine aw_get (pc := 48) hC inX10 (v0 (j := 12) (by decide)) rfl rfl 11 (by decide) kw1325 rfl rfl dX10_figures_48 ?_
            refine aw_iload_n (pc := 51) (i := 3) hC dX10_figures_51 rfl rfl ?_
            refine aw_isub (pc := 52) hC dX10_figures_52 ?_
            refine aw_iconst (pc := 53) (v := 3) hC dX10_figures_53 ic3 ?_
            refine aw_icmp_gt (pc := 54) (tgt := 89) hC dX10_figures_54 (by decide) (fun _ => ?_) (fun _ => ?_)
            · skip
              exact hk89 x4 μ5
            · skip
              refine aw_bipush (pc := 57) (v := 10) hC dX10_figures_57 bc10 ?_
              refine aw_iload (pc := 59) hC dX10_figures_59 rfl ?_
              refine aw_imul (pc := 61) hC dX10_figures_61 ?_
              refine aw_aload_n (pc := 62) (i := 0) hC dX10_figures_62 rfl rfl ?_
              refine aw_aload_n (pc := 63) (i := 0) hC dX10_figures_63 rfl rfl ?_
              refine aw_get (pc := 64) hC inX10 (v0 (j := 12) (by decide)) rfl rfl 11 (by decide) kw1325 rfl rfl dX10_figures_64 ?_
              refine aw_callVR (pc := 67) (As := [.int (μ5 0 12 11)]) hC mb_X10_letter kw1417 (by decide) (c_X10_letter G C.2.1   μ5 (μ5 0 12 11)) (v0 (j := 12) (by decide)) rfl rfl rfl (Nat.le_of_ble_eq_true rfl) dX10_figures_67 (fun q8 => ?_)
              refine aw_iadd (pc := 70) hC dX10_figures_70 ?_
              refine aw_bipush (pc := 71) (v := 48) hC dX10_figures_71 bc48 ?_
              refine aw_isub (pc := 73) hC dX10_figures_73 ?_
              refine aw_istore (pc := 74) hC dX10_figures_74 rfl (by decide) ?_
              refine aw_aload_n (pc := 76) (i := 0) hC dX10_figures_76 rfl rfl ?_
              refine aw_dup (pc := 77) hC dX10_figures_77 rfl ?_
              refine aw_get (pc := 78) hC inX10 (v0 (j := 12) (by decide)) rfl rfl 11 (by decide) kw1325 rfl rfl dX10_figures_78 ?_
              refine aw_iconst (pc := 81) (v := 1) hC dX10_figures_81 ic1 ?_
              refine aw_iadd (pc := 82) hC dX10_figures_82 ?_
              refine aw_putIN (pc := 83) hC inX10 (v0 (j := 12) (by decide)) rfl rfl 11 (by decide) kw1325 rfl tyX10 tyX10_ok nmX10 rfl rfl (Nat.le_of_ble_eq_true rfl) rfl dX10_figures_83 (fun μ9 => ?_)
              refine aw_goto (pc := 86) (tgt := 18) hC dX10_figures_86 (by decide) ?_
              exact ih (((10 * x4) + q8) - 48) μ9
    refine hL18 (fun (x2 : Int32) (μ3 : Mem) => nm ((f_X10_wrong μ3 q1.1).bind fun (q10 : Mem) => some (x2, q10)) fun (J119 : Option (Int32 × Mem)) => if (μ3 0 12 11) = q1.1 then (J119) else (if 3 < ((μ3 0 12 11) - q1.1) then (J119) else (if x2 < a1 then (J119) else (if x2 ≤ a2 then (some (x2, μ3)) else (J119))))) (fun x2 μ3 => ?_) 4096 0 q1.2
    · skip
      refine aw_aload_n (pc := 89) (i := 0) hC dX10_figures_89 rfl rfl ?_
      refine aw_get (pc := 90) hC inX10 (v0 (j := 12) (by decide)) rfl rfl 11 (by decide) kw1325 rfl rfl dX10_figures_90 ?_
      refine aw_iload_n (pc := 93) (i := 3) hC dX10_figures_93 rfl rfl ?_
      refine aw_nmJ (fun (J119 : Option (Int32 × Mem)) => AW G C (qI G C 0 0) 0 0 5 μ3 119 [some (.ref (gad G 0 12)), none, none, some (.int q1.1), some (.int x2)] [] (J119)) ?_ (fun J119 hJ119 => ?_)
      · skip
        refine aw_aload_n (pc := 119) (i := 0) hC dX10_figures_119 rfl rfl ?_
        refine aw_iload_n (pc := 120) (i := 3) hC dX10_figures_120 rfl rfl ?_
        refine aw_callVV (pc := 121) (As := [.int q1.1]) hC mb_X10_wrong kw1421 (by decide) (c_X10_wrong G C.2.1   μ3 q1.1) (v0 (j := 12) (by decide)) rfl rfl rfl (Nat.le_of_ble_eq_true rfl) dX10_figures_121 (fun q10 => ?_)
        refine aw_iload (pc := 124) hC dX10_figures_124 rfl ?_
        exact aw_iret hC dX10_figures_126
      · skip
        refine aw_icmp_eq (pc := 94) (tgt := 119) hC dX10_figures_94 (by decide) (fun _ => ?_) (fun _ => ?_)
        · skip
          exact aw_drop [1, 2] (hJ119)
        · skip
          refine aw_aload_n (pc := 97) (i := 0) hC dX10_figures_97 rfl rfl ?_
          refine aw_get (pc := 98) hC inX10 (v0 (j := 12) (by decide)) rfl rfl 11 (by decide) kw1325 rfl rfl dX10_figures_98 ?_
          refine aw_iload_n (pc := 101) (i := 3) hC dX10_figures_101 rfl rfl ?_
          refine aw_isub (pc := 102) hC dX10_figures_102 ?_
          refine aw_iconst (pc := 103) (v := 3) hC dX10_figures_103 ic3 ?_
          refine aw_icmp_gt (pc := 104) (tgt := 119) hC dX10_figures_104 (by decide) (fun _ => ?_) (fun _ => ?_)
          · skip
            exact aw_drop [1, 2] (hJ119)
          · skip
            refine aw_iload (pc := 107) hC dX10_figures_107 rfl ?_
            refine aw_iload_n (pc := 109) (i := 1) hC dX10_figures_109 rfl rfl ?_
            refine aw_icmp_lt (pc := 110) (tgt := 119) hC dX10_figures_110 (by decide) (fun _ => ?_) (fun _ => ?_)
            · skip
              exact aw_drop [1, 2] (hJ119)
            · skip
              refine aw_iload (pc := 113) hC dX10_figures_113 rfl ?_
              refine aw_iload_n (pc := 115) (i := 2) hC dX10_figures_115 rfl rfl ?_
              refine aw_icmp_le (pc := 116) (tgt := 124) hC dX10_figures_116 (by decide) (fun _ => ?_) (fun _ => ?_)
              · skip
                refine aw_iload (pc := 124) hC dX10_figures_124 rfl ?_
                exact aw_iret hC dX10_figures_126
              · skip
                exact aw_drop [1, 2] (hJ119)
  · skip
    refine aw_iconst (pc := 8) (v := 0) hC dX10_figures_8 ic0 ?_
    exact aw_iret hC dX10_figures_9
theorem dX10_isSign_0 : decode cX10_isSign 0 = .ok (.aload_n 0, 1) := by decide +kernel
theorem dX10_isSign_1 : decode cX10_isSign 1 = .ok (.invokevirtual 76, 3) := by decide +kernel
theorem dX10_isSign_4 : decode cX10_isSign 4 = .ok (.aload_n 0, 1) := by decide +kernel
theorem dX10_isSign_5 : decode cX10_isSign 5 = .ok (.getfield 67, 3) := by decide +kernel
theorem dX10_isSign_8 : decode cX10_isSign 8 = .ok (.aload_n 0, 1) := by decide +kernel
theorem dX10_isSign_9 : decode cX10_isSign 9 = .ok (.getfield 70, 3) := by decide +kernel
theorem dX10_isSign_12 : decode cX10_isSign 12 = .ok (.if_icmp .ge 19, 3) := by decide +kernel
theorem dX10_isSign_15 : decode cX10_isSign 15 = .ok (.aload_n 0, 1) := by decide +kernel
theorem dX10_isSign_16 : decode cX10_isSign 16 = .ok (.aload_n 0, 1) := by decide +kernel
theorem dX10_isSign_17 : decode cX10_isSign 17 = .ok (.getfield 67, 3) := by decide +kernel
theorem dX10_isSign_20 : decode cX10_isSign 20 = .ok (.invokevirtual 73, 3) := by decide +kernel
theorem dX10_isSign_23 : decode cX10_isSign 23 = .ok (.iload_n 1, 1) := by decide +kernel
theorem dX10_isSign_24 : decode cX10_isSign 24 = .ok (.if_icmp .ne 7, 3) := by decide +kernel
theorem dX10_isSign_27 : decode cX10_isSign 27 = .ok (.iconst 1, 1) := by decide +kernel
theorem dX10_isSign_28 : decode cX10_isSign 28 = .ok (.goto 4, 3) := by decide +kernel
theorem dX10_isSign_31 : decode cX10_isSign 31 = .ok (.iconst 0, 1) := by decide +kernel
theorem dX10_isSign_32 : decode cX10_isSign 32 = .ok (.ireturn, 1) := by decide +kernel
def f_X10_isSign (μ : Mem) (a1 : Int32) : Option (Int32 × Mem) := (f_X10_skip μ).bind fun (q1 : Mem) => if (q1 0 12 10) ≤ (q1 0 12 11) then (some (0, q1)) else ((f_X10_letter q1 (q1 0 12 11)).bind fun (q2 : Int32) => if q2 = a1 then (some (1, q1)) else (some (0, q1)))
set_option maxHeartbeats 4000000 in
set_option maxRecDepth 100000 in
theorem c_X10_isSign (G : GG) (l : Launch) (μ : Mem) (a1 : Int32) : CI G l yX10_isSign (.code yX10_isSign cX10_isSign 2 (some .boolean)) 3 [.ref (gad G 0 12), .int a1] μ (f_X10_isSign μ a1) := by
  refine CI.of (own := "SaturdayKeepModel") (L0 := [some (.ref (gad G 0 12)), some (.int a1)]) rfl rfl rfl (Nat.le_of_ble_eq_true rfl) (fun C hl hC => ?_)
  subst hl
  delta f_X10_isSign
  refine aw_aload_n (pc := 0) (i := 0) hC dX10_isSign_0 rfl rfl ?_
  refine aw_callVV (pc := 1) (As := []) hC mb_X10_skip kw1413 (by decide) (c_X10_skip G C.2.1   μ ) (v0 (j := 12) (by decide)) rfl rfl rfl (Nat.le_of_ble_eq_true rfl) dX10_isSign_1 (fun q1 => ?_)
  refine aw_aload_n (pc := 4) (i := 0) hC dX10_isSign_4 rfl rfl ?_
  refine aw_get (pc := 5) hC inX10 (v0 (j := 12) (by decide)) rfl rfl 11 (by decide) kw1325 rfl rfl dX10_isSign_5 ?_
  refine aw_aload_n (pc := 8) (i := 0) hC dX10_isSign_8 rfl rfl ?_
  refine aw_get (pc := 9) hC inX10 (v0 (j := 12) (by decide)) rfl rfl 10 (by decide) kw1324 rfl rfl dX10_isSign_9 ?_
  refine aw_icmp_ge (pc := 12) (tgt := 31) hC dX10_isSign_12 (by decide) (fun _ => ?_) (fun _ => ?_)
  · skip
    refine aw_iconst (pc := 31) (v := 0) hC dX10_isSign_31 ic0 ?_
    exact aw_zret0 hC dX10_isSign_32
  · skip
    refine aw_aload_n (pc := 15) (i := 0) hC dX10_isSign_15 rfl rfl ?_
    refine aw_aload_n (pc := 16) (i := 0) hC dX10_isSign_16 rfl rfl ?_
    refine aw_get (pc := 17) hC inX10 (v0 (j := 12) (by decide)) rfl rfl 11 (by decide) kw1325 rfl rfl dX10_isSign_17 ?_
    refine aw_callVR (pc := 20) (As := [.int (q1 0 12 11)]) hC mb_X10_letter kw1417 (by decide) (c_X10_letter G C.2.1   q1 (q1 0 12 11)) (v0 (j := 12) (by decide)) rfl rfl rfl (Nat.le_of_ble_eq_true rfl) dX10_isSign_20 (fun q2 => ?_)
    refine aw_iload_n (pc := 23) (i := 1) hC dX10_isSign_23 rfl rfl ?_
    refine aw_icmp_ne (pc := 24) (tgt := 31) hC dX10_isSign_24 (by decide) (fun _ => ?_) (fun _ => ?_)
    · skip
      refine aw_iconst (pc := 27) (v := 1) hC dX10_isSign_27 ic1 ?_
      refine aw_goto (pc := 28) (tgt := 32) hC dX10_isSign_28 (by decide) ?_
      exact aw_zret1 hC dX10_isSign_32
    · skip
      refine aw_iconst (pc := 31) (v := 0) hC dX10_isSign_31 ic0 ?_
      exact aw_zret0 hC dX10_isSign_32
theorem dX10_part_0 : decode cX10_part 0 = .ok (.aload_n 0, 1) := by decide +kernel
theorem dX10_part_1 : decode cX10_part 1 = .ok (.getfield 25, 3) := by decide +kernel
theorem dX10_part_4 : decode cX10_part 4 = .ok (.iconst (-1), 1) := by decide +kernel
theorem dX10_part_5 : decode cX10_part 5 = .ok (.if_icmp .eq 5, 3) := by decide +kernel
theorem dX10_part_8 : decode cX10_part 8 = .ok (.iconst 0, 1) := by decide +kernel
theorem dX10_part_9 : decode cX10_part 9 = .ok (.ireturn, 1) := by decide +kernel
theorem dX10_part_10 : decode cX10_part 10 = .ok (.aload_n 0, 1) := by decide +kernel
theorem dX10_part_11 : decode cX10_part 11 = .ok (.invokevirtual 76, 3) := by decide +kernel
theorem dX10_part_14 : decode cX10_part 14 = .ok (.aload_n 0, 1) := by decide +kernel
theorem dX10_part_15 : decode cX10_part 15 = .ok (.getfield 67, 3) := by decide +kernel
theorem dX10_part_18 : decode cX10_part 18 = .ok (.aload_n 0, 1) := by decide +kernel
theorem dX10_part_19 : decode cX10_part 19 = .ok (.getfield 70, 3) := by decide +kernel
theorem dX10_part_22 : decode cX10_part 22 = .ok (.if_icmp .ge 30, 3) := by decide +kernel
theorem dX10_part_25 : decode cX10_part 25 = .ok (.aload_n 0, 1) := by decide +kernel
theorem dX10_part_26 : decode cX10_part 26 = .ok (.aload_n 0, 1) := by decide +kernel
theorem dX10_part_27 : decode cX10_part 27 = .ok (.getfield 67, 3) := by decide +kernel
theorem dX10_part_30 : decode cX10_part 30 = .ok (.invokevirtual 73, 3) := by decide +kernel
theorem dX10_part_33 : decode cX10_part 33 = .ok (.bipush 48, 2) := by decide +kernel
theorem dX10_part_35 : decode cX10_part 35 = .ok (.bipush 57, 2) := by decide +kernel
theorem dX10_part_37 : decode cX10_part 37 = .ok (.invokestatic 45, 3) := by decide +kernel
theorem dX10_part_40 : decode cX10_part 40 = .ok (.ifCond .eq 12, 3) := by decide +kernel
theorem dX10_part_43 : decode cX10_part 43 = .ok (.aload_n 0, 1) := by decide +kernel
theorem dX10_part_44 : decode cX10_part 44 = .ok (.iconst 0, 1) := by decide +kernel
theorem dX10_part_45 : decode cX10_part 45 = .ok (.sipush 999, 3) := by decide +kernel
theorem dX10_part_48 : decode cX10_part 48 = .ok (.invokevirtual 100, 3) := by decide +kernel
theorem dX10_part_51 : decode cX10_part 51 = .ok (.ireturn, 1) := by decide +kernel
theorem dX10_part_52 : decode cX10_part 52 = .ok (.aload_n 0, 1) := by decide +kernel
theorem dX10_part_53 : decode cX10_part 53 = .ok (.ldc 118, 2) := by decide +kernel
theorem dX10_part_55 : decode cX10_part 55 = .ok (.invokevirtual 96, 3) := by decide +kernel
theorem dX10_part_58 : decode cX10_part 58 = .ok (.ifCond .eq 7, 3) := by decide +kernel
theorem dX10_part_61 : decode cX10_part 61 = .ok (.iconst 0, 1) := by decide +kernel
theorem dX10_part_62 : decode cX10_part 62 = .ok (.goto 83, 3) := by decide +kernel
theorem dX10_part_65 : decode cX10_part 65 = .ok (.aload_n 0, 1) := by decide +kernel
theorem dX10_part_66 : decode cX10_part 66 = .ok (.ldc 175, 2) := by decide +kernel
theorem dX10_part_68 : decode cX10_part 68 = .ok (.invokevirtual 96, 3) := by decide +kernel
theorem dX10_part_71 : decode cX10_part 71 = .ok (.ifCond .eq 7, 3) := by decide +kernel
theorem dX10_part_74 : decode cX10_part 74 = .ok (.iconst 1, 1) := by decide +kernel
theorem dX10_part_75 : decode cX10_part 75 = .ok (.goto 70, 3) := by decide +kernel
theorem dX10_part_78 : decode cX10_part 78 = .ok (.aload_n 0, 1) := by decide +kernel
theorem dX10_part_79 : decode cX10_part 79 = .ok (.ldc 103, 2) := by decide +kernel
theorem dX10_part_81 : decode cX10_part 81 = .ok (.invokevirtual 96, 3) := by decide +kernel
theorem dX10_part_84 : decode cX10_part 84 = .ok (.ifCond .eq 7, 3) := by decide +kernel
theorem dX10_part_87 : decode cX10_part 87 = .ok (.iconst 2, 1) := by decide +kernel
theorem dX10_part_88 : decode cX10_part 88 = .ok (.goto 57, 3) := by decide +kernel
theorem dX10_part_91 : decode cX10_part 91 = .ok (.aload_n 0, 1) := by decide +kernel
theorem dX10_part_92 : decode cX10_part 92 = .ok (.ldc 177, 2) := by decide +kernel
theorem dX10_part_94 : decode cX10_part 94 = .ok (.invokevirtual 96, 3) := by decide +kernel
theorem dX10_part_97 : decode cX10_part 97 = .ok (.ifCond .eq 7, 3) := by decide +kernel
theorem dX10_part_100 : decode cX10_part 100 = .ok (.iconst 3, 1) := by decide +kernel
theorem dX10_part_101 : decode cX10_part 101 = .ok (.goto 44, 3) := by decide +kernel
theorem dX10_part_104 : decode cX10_part 104 = .ok (.aload_n 0, 1) := by decide +kernel
theorem dX10_part_105 : decode cX10_part 105 = .ok (.ldc 179, 2) := by decide +kernel
theorem dX10_part_107 : decode cX10_part 107 = .ok (.invokevirtual 96, 3) := by decide +kernel
theorem dX10_part_110 : decode cX10_part 110 = .ok (.ifCond .eq 7, 3) := by decide +kernel
theorem dX10_part_113 : decode cX10_part 113 = .ok (.iconst 4, 1) := by decide +kernel
theorem dX10_part_114 : decode cX10_part 114 = .ok (.goto 31, 3) := by decide +kernel
theorem dX10_part_117 : decode cX10_part 117 = .ok (.aload_n 0, 1) := by decide +kernel
theorem dX10_part_118 : decode cX10_part 118 = .ok (.ldc 181, 2) := by decide +kernel
theorem dX10_part_120 : decode cX10_part 120 = .ok (.invokevirtual 96, 3) := by decide +kernel
theorem dX10_part_123 : decode cX10_part 123 = .ok (.ifCond .eq 7, 3) := by decide +kernel
theorem dX10_part_126 : decode cX10_part 126 = .ok (.iconst 5, 1) := by decide +kernel
theorem dX10_part_127 : decode cX10_part 127 = .ok (.goto 18, 3) := by decide +kernel
theorem dX10_part_130 : decode cX10_part 130 = .ok (.aload_n 0, 1) := by decide +kernel
theorem dX10_part_131 : decode cX10_part 131 = .ok (.ldc 183, 2) := by decide +kernel
theorem dX10_part_133 : decode cX10_part 133 = .ok (.invokevirtual 96, 3) := by decide +kernel
theorem dX10_part_136 : decode cX10_part 136 = .ok (.ifCond .eq 8, 3) := by decide +kernel
theorem dX10_part_139 : decode cX10_part 139 = .ok (.bipush 6, 2) := by decide +kernel
theorem dX10_part_141 : decode cX10_part 141 = .ok (.goto 4, 3) := by decide +kernel
theorem dX10_part_144 : decode cX10_part 144 = .ok (.iconst (-1), 1) := by decide +kernel
theorem dX10_part_145 : decode cX10_part 145 = .ok (.istore_n 1, 1) := by decide +kernel
theorem dX10_part_146 : decode cX10_part 146 = .ok (.iload_n 1, 1) := by decide +kernel
theorem dX10_part_147 : decode cX10_part 147 = .ok (.iconst (-1), 1) := by decide +kernel
theorem dX10_part_148 : decode cX10_part 148 = .ok (.if_icmp .ne 13, 3) := by decide +kernel
theorem dX10_part_151 : decode cX10_part 151 = .ok (.aload_n 0, 1) := by decide +kernel
theorem dX10_part_152 : decode cX10_part 152 = .ok (.aload_n 0, 1) := by decide +kernel
theorem dX10_part_153 : decode cX10_part 153 = .ok (.getfield 67, 3) := by decide +kernel
theorem dX10_part_156 : decode cX10_part 156 = .ok (.invokevirtual 92, 3) := by decide +kernel
theorem dX10_part_159 : decode cX10_part 159 = .ok (.iconst 0, 1) := by decide +kernel
theorem dX10_part_160 : decode cX10_part 160 = .ok (.ireturn, 1) := by decide +kernel
theorem dX10_part_161 : decode cX10_part 161 = .ok (.aload_n 0, 1) := by decide +kernel
theorem dX10_part_162 : decode cX10_part 162 = .ok (.getfield 29, 3) := by decide +kernel
theorem dX10_part_165 : decode cX10_part 165 = .ok (.iload_n 1, 1) := by decide +kernel
theorem dX10_part_166 : decode cX10_part 166 = .ok (.iaload, 1) := by decide +kernel
theorem dX10_part_167 : decode cX10_part 167 = .ok (.ireturn, 1) := by decide +kernel
def f_X10_part (μ : Mem) : Option (Int32 × Mem) := if (μ 0 12 12) = (-1) then ((f_X10_skip μ).bind fun (q1 : Mem) => nm ((f_X10_has 50 q1).bind fun (q2 : Int32 × Mem) => nm (fun (x3 : Int32) (μ4 : Mem) => if x3 = (-1) then ((f_X10_wrong μ4 (μ4 0 12 11)).bind fun (q5 : Mem) => some (0, q5)) else (ix x3 7 (some ((μ4 0 18 x3.toNatClampNeg), μ4)))) fun (J145 : Int32 → Mem → Option (Int32 × Mem)) => if q2.1 = 0 then ((f_X10_has 51 q2.2).bind fun (q6 : Int32 × Mem) => if q6.1 = 0 then ((f_X10_has 52 q6.2).bind fun (q7 : Int32 × Mem) => if q7.1 = 0 then ((f_X10_has 53 q7.2).bind fun (q8 : Int32 × Mem) => if q8.1 = 0 then ((f_X10_has 54 q8.2).bind fun (q9 : Int32 × Mem) => if q9.1 = 0 then ((f_X10_has 55 q9.2).bind fun (q10 : Int32 × Mem) => if q10.1 = 0 then ((f_X10_has 56 q10.2).bind fun (q11 : Int32 × Mem) => if q11.1 = 0 then (J145 (-1) q11.2) else (J145 6 q11.2)) else (J145 5 q10.2)) else (J145 4 q9.2)) else (J145 3 q8.2)) else (J145 2 q7.2)) else (J145 1 q6.2)) else (J145 0 q2.2)) fun (J52 : Option (Int32 × Mem)) => if (q1 0 12 10) ≤ (q1 0 12 11) then (J52) else ((f_X10_letter q1 (q1 0 12 11)).bind fun (q12 : Int32) => (f_X10_isIn q12 48 57).bind fun (q13 : Int32) => if q13 = 0 then (J52) else ((f_X10_figures q1 0 999).bind fun (q14 : Int32 × Mem) => some (q14.1, q14.2)))) else (some (0, μ))
set_option maxHeartbeats 4000000 in
set_option maxRecDepth 100000 in
theorem c_X10_part (G : GG) (l : Launch) (μ : Mem) : CI G l yX10_part (.code yX10_part cX10_part 2 (some .int)) 11 [.ref (gad G 0 12)] μ (f_X10_part μ) := by
  refine CI.of (own := "SaturdayKeepModel") (L0 := [some (.ref (gad G 0 12)), none]) rfl rfl rfl (Nat.le_of_ble_eq_true rfl) (fun C hl hC => ?_)
  subst hl
  delta f_X10_part
  refine aw_aload_n (pc := 0) (i := 0) hC dX10_part_0 rfl rfl ?_
  refine aw_get (pc := 1) hC inX10 (v0 (j := 12) (by decide)) rfl rfl 12 (by decide) kw1326 rfl rfl dX10_part_1 ?_
  refine aw_iconst (pc := 4) (v := (-1)) hC dX10_part_4 icm1 ?_
  refine aw_icmp_eq (pc := 5) (tgt := 10) hC dX10_part_5 (by decide) (fun _ => ?_) (fun _ => ?_)
  · skip
    refine aw_aload_n (pc := 10) (i := 0) hC dX10_part_10 rfl rfl ?_
    refine aw_callVV (pc := 11) (As := []) hC mb_X10_skip kw1413 (by decide) (c_X10_skip G C.2.1   μ ) (v0 (j := 12) (by decide)) rfl rfl rfl (Nat.le_of_ble_eq_true rfl) dX10_part_11 (fun q1 => ?_)
    refine aw_aload_n (pc := 14) (i := 0) hC dX10_part_14 rfl rfl ?_
    refine aw_get (pc := 15) hC inX10 (v0 (j := 12) (by decide)) rfl rfl 11 (by decide) kw1325 rfl rfl dX10_part_15 ?_
    refine aw_aload_n (pc := 18) (i := 0) hC dX10_part_18 rfl rfl ?_
    refine aw_get (pc := 19) hC inX10 (v0 (j := 12) (by decide)) rfl rfl 10 (by decide) kw1324 rfl rfl dX10_part_19 ?_
    refine aw_nmJ (fun (J52 : Option (Int32 × Mem)) => AW G C (qI G C 0 0) 0 0 2 q1 52 [some (.ref (gad G 0 12)), none] [] (J52)) ?_ (fun J52 hJ52 => ?_)
    · skip
      refine aw_aload_n (pc := 52) (i := 0) hC dX10_part_52 rfl rfl ?_
      refine aw_ldcS (pc := 53) (i := 50) hC rfl dX10_part_53 ?_
      refine aw_callVI (pc := 55) (As := [.ref (gsK G 50)]) hC mb_X10_has kw1430 (by decide) (c_X10_has G C.2.1 50 (by decide) q1 ) (v0 (j := 12) (by decide)) rfl rfl rfl (Nat.le_of_ble_eq_true rfl) dX10_part_55 (fun q2 => ?_)
      refine aw_nmJ (fun (J145 : Int32 → Mem → Option (Int32 × Mem)) => ∀ (x3 : Int32) (μ4 : Mem), AW G C (qI G C 0 0) 0 0 2 μ4 145 [some (.ref (gad G 0 12)), none] [.int x3] (J145 x3 μ4)) (fun x3 μ4 => ?_) (fun J145 hJ145 => ?_)
      · skip
        refine aw_istore_n (pc := 145) (i := 1) hC dX10_part_145 rfl rfl (by decide) ?_
        refine aw_iload_n (pc := 146) (i := 1) hC dX10_part_146 rfl rfl ?_
        refine aw_iconst (pc := 147) (v := (-1)) hC dX10_part_147 icm1 ?_
        refine aw_icmp_ne (pc := 148) (tgt := 161) hC dX10_part_148 (by decide) (fun _ => ?_) (fun _ => ?_)
        · skip
          refine aw_aload_n (pc := 151) (i := 0) hC dX10_part_151 rfl rfl ?_
          refine aw_aload_n (pc := 152) (i := 0) hC dX10_part_152 rfl rfl ?_
          refine aw_get (pc := 153) hC inX10 (v0 (j := 12) (by decide)) rfl rfl 11 (by decide) kw1325 rfl rfl dX10_part_153 ?_
          refine aw_callVV (pc := 156) (As := [.int (μ4 0 12 11)]) hC mb_X10_wrong kw1421 (by decide) (c_X10_wrong G C.2.1   μ4 (μ4 0 12 11)) (v0 (j := 12) (by decide)) rfl rfl rfl (Nat.le_of_ble_eq_true rfl) dX10_part_156 (fun q5 => ?_)
          refine aw_iconst (pc := 159) (v := 0) hC dX10_part_159 ic0 ?_
          exact aw_iret hC dX10_part_160
        · skip
          refine aw_aload_n (pc := 161) (i := 0) hC dX10_part_161 rfl rfl ?_
          refine aw_get (pc := 162) hC inX10 (v0 (j := 12) (by decide)) rfl rfl 14 (by decide) kw1328 rfl rfl dX10_part_162 ?_
          refine aw_iload_n (pc := 165) (i := 1) hC dX10_part_165 rfl rfl ?_
          refine aw_iaload (pc := 166) hC (v0 (j := 18) (by decide)) rfl dX10_part_166 ?_
          exact aw_iret hC dX10_part_167
      · skip
        refine aw_if_eq (pc := 58) (tgt := 65) hC dX10_part_58 (by decide) (fun _ => ?_) (fun _ => ?_)
        · skip
          refine aw_aload_n (pc := 65) (i := 0) hC dX10_part_65 rfl rfl ?_
          refine aw_ldcS (pc := 66) (i := 51) hC rfl dX10_part_66 ?_
          refine aw_callVI (pc := 68) (As := [.ref (gsK G 51)]) hC mb_X10_has kw1430 (by decide) (c_X10_has G C.2.1 51 (by decide) q2.2 ) (v0 (j := 12) (by decide)) rfl rfl rfl (Nat.le_of_ble_eq_true rfl) dX10_part_68 (fun q6 => ?_)
          refine aw_if_eq (pc := 71) (tgt := 78) hC dX10_part_71 (by decide) (fun _ => ?_) (fun _ => ?_)
          · skip
            refine aw_aload_n (pc := 78) (i := 0) hC dX10_part_78 rfl rfl ?_
            refine aw_ldcS (pc := 79) (i := 52) hC rfl dX10_part_79 ?_
            refine aw_callVI (pc := 81) (As := [.ref (gsK G 52)]) hC mb_X10_has kw1430 (by decide) (c_X10_has G C.2.1 52 (by decide) q6.2 ) (v0 (j := 12) (by decide)) rfl rfl rfl (Nat.le_of_ble_eq_true rfl) dX10_part_81 (fun q7 => ?_)
            refine aw_if_eq (pc := 84) (tgt := 91) hC dX10_part_84 (by decide) (fun _ => ?_) (fun _ => ?_)
            · skip
              refine aw_aload_n (pc := 91) (i := 0) hC dX10_part_91 rfl rfl ?_
              refine aw_ldcS (pc := 92) (i := 53) hC rfl dX10_part_92 ?_
              refine aw_callVI (pc := 94) (As := [.ref (gsK G 53)]) hC mb_X10_has kw1430 (by decide) (c_X10_has G C.2.1 53 (by decide) q7.2 ) (v0 (j := 12) (by decide)) rfl rfl rfl (Nat.le_of_ble_eq_true rfl) dX10_part_94 (fun q8 => ?_)
              refine aw_if_eq (pc := 97) (tgt := 104) hC dX10_part_97 (by decide) (fun _ => ?_) (fun _ => ?_)
              · skip
                refine aw_aload_n (pc := 104) (i := 0) hC dX10_part_104 rfl rfl ?_
                refine aw_ldcS (pc := 105) (i := 54) hC rfl dX10_part_105 ?_
                refine aw_callVI (pc := 107) (As := [.ref (gsK G 54)]) hC mb_X10_has kw1430 (by decide) (c_X10_has G C.2.1 54 (by decide) q8.2 ) (v0 (j := 12) (by decide)) rfl rfl rfl (Nat.le_of_ble_eq_true rfl) dX10_part_107 (fun q9 => ?_)
                refine aw_if_eq (pc := 110) (tgt := 117) hC dX10_part_110 (by decide) (fun _ => ?_) (fun _ => ?_)
                · skip
                  refine aw_aload_n (pc := 117) (i := 0) hC dX10_part_117 rfl rfl ?_
                  refine aw_ldcS (pc := 118) (i := 55) hC rfl dX10_part_118 ?_
                  refine aw_callVI (pc := 120) (As := [.ref (gsK G 55)]) hC mb_X10_has kw1430 (by decide) (c_X10_has G C.2.1 55 (by decide) q9.2 ) (v0 (j := 12) (by decide)) rfl rfl rfl (Nat.le_of_ble_eq_true rfl) dX10_part_120 (fun q10 => ?_)
                  refine aw_if_eq (pc := 123) (tgt := 130) hC dX10_part_123 (by decide) (fun _ => ?_) (fun _ => ?_)
                  · skip
                    refine aw_aload_n (pc := 130) (i := 0) hC dX10_part_130 rfl rfl ?_
                    refine aw_ldcS (pc := 131) (i := 56) hC rfl dX10_part_131 ?_
                    refine aw_callVI (pc := 133) (As := [.ref (gsK G 56)]) hC mb_X10_has kw1430 (by decide) (c_X10_has G C.2.1 56 (by decide) q10.2 ) (v0 (j := 12) (by decide)) rfl rfl rfl (Nat.le_of_ble_eq_true rfl) dX10_part_133 (fun q11 => ?_)
                    refine aw_if_eq (pc := 136) (tgt := 144) hC dX10_part_136 (by decide) (fun _ => ?_) (fun _ => ?_)
                    · skip
                      refine aw_iconst (pc := 144) (v := (-1)) hC dX10_part_144 icm1 ?_
                      exact hJ145 (-1) q11.2
                    · skip
                      refine aw_bipush (pc := 139) (v := 6) hC dX10_part_139 bc6 ?_
                      refine aw_goto (pc := 141) (tgt := 145) hC dX10_part_141 (by decide) ?_
                      exact hJ145 6 q11.2
                  · skip
                    refine aw_iconst (pc := 126) (v := 5) hC dX10_part_126 ic5 ?_
                    refine aw_goto (pc := 127) (tgt := 145) hC dX10_part_127 (by decide) ?_
                    exact hJ145 5 q10.2
                · skip
                  refine aw_iconst (pc := 113) (v := 4) hC dX10_part_113 ic4 ?_
                  refine aw_goto (pc := 114) (tgt := 145) hC dX10_part_114 (by decide) ?_
                  exact hJ145 4 q9.2
              · skip
                refine aw_iconst (pc := 100) (v := 3) hC dX10_part_100 ic3 ?_
                refine aw_goto (pc := 101) (tgt := 145) hC dX10_part_101 (by decide) ?_
                exact hJ145 3 q8.2
            · skip
              refine aw_iconst (pc := 87) (v := 2) hC dX10_part_87 ic2 ?_
              refine aw_goto (pc := 88) (tgt := 145) hC dX10_part_88 (by decide) ?_
              exact hJ145 2 q7.2
          · skip
            refine aw_iconst (pc := 74) (v := 1) hC dX10_part_74 ic1 ?_
            refine aw_goto (pc := 75) (tgt := 145) hC dX10_part_75 (by decide) ?_
            exact hJ145 1 q6.2
        · skip
          refine aw_iconst (pc := 61) (v := 0) hC dX10_part_61 ic0 ?_
          refine aw_goto (pc := 62) (tgt := 145) hC dX10_part_62 (by decide) ?_
          exact hJ145 0 q2.2
    · skip
      refine aw_icmp_ge (pc := 22) (tgt := 52) hC dX10_part_22 (by decide) (fun _ => ?_) (fun _ => ?_)
      · skip
        exact hJ52
      · skip
        refine aw_aload_n (pc := 25) (i := 0) hC dX10_part_25 rfl rfl ?_
        refine aw_aload_n (pc := 26) (i := 0) hC dX10_part_26 rfl rfl ?_
        refine aw_get (pc := 27) hC inX10 (v0 (j := 12) (by decide)) rfl rfl 11 (by decide) kw1325 rfl rfl dX10_part_27 ?_
        refine aw_callVR (pc := 30) (As := [.int (q1 0 12 11)]) hC mb_X10_letter kw1417 (by decide) (c_X10_letter G C.2.1   q1 (q1 0 12 11)) (v0 (j := 12) (by decide)) rfl rfl rfl (Nat.le_of_ble_eq_true rfl) dX10_part_30 (fun q12 => ?_)
        refine aw_bipush (pc := 33) (v := 48) hC dX10_part_33 bc48 ?_
        refine aw_bipush (pc := 35) (v := 57) hC dX10_part_35 bc57 ?_
        refine aw_callSR (pc := 37) (As := [.int q12, .int 48, .int 57]) hC ms_X10_isIn kw1394 (by decide) (c_X10_isIn G C.2.1   q1 q12 48 57) rfl (Nat.le_of_ble_eq_true rfl) dX10_part_37 (fun q13 => ?_)
        refine aw_if_eq (pc := 40) (tgt := 52) hC dX10_part_40 (by decide) (fun _ => ?_) (fun _ => ?_)
        · skip
          exact hJ52
        · skip
          refine aw_aload_n (pc := 43) (i := 0) hC dX10_part_43 rfl rfl ?_
          refine aw_iconst (pc := 44) (v := 0) hC dX10_part_44 ic0 ?_
          refine aw_sipush (pc := 45) (v := 999) hC dX10_part_45 sc999 ?_
          refine aw_callVI (pc := 48) (As := [.int 0, .int 999]) hC mb_X10_figures kw1437 (by decide) (c_X10_figures G C.2.1   q1 0 999) (v0 (j := 12) (by decide)) rfl rfl rfl (Nat.le_of_ble_eq_true rfl) dX10_part_48 (fun q14 => ?_)
          exact aw_iret hC dX10_part_51
  · skip
    refine aw_iconst (pc := 8) (v := 0) hC dX10_part_8 ic0 ?_
    exact aw_iret hC dX10_part_9
theorem dX10_sum_0 : decode cX10_sum 0 = .ok (.aload_n 0, 1) := by decide +kernel
theorem dX10_sum_1 : decode cX10_sum 1 = .ok (.invokevirtual 185, 3) := by decide +kernel
theorem dX10_sum_4 : decode cX10_sum 4 = .ok (.istore_n 1, 1) := by decide +kernel
theorem dX10_sum_5 : decode cX10_sum 5 = .ok (.aload_n 0, 1) := by decide +kernel
theorem dX10_sum_6 : decode cX10_sum 6 = .ok (.getfield 25, 3) := by decide +kernel
theorem dX10_sum_9 : decode cX10_sum 9 = .ok (.iconst (-1), 1) := by decide +kernel
theorem dX10_sum_10 : decode cX10_sum 10 = .ok (.if_icmp .ne 32, 3) := by decide +kernel
theorem dX10_sum_13 : decode cX10_sum 13 = .ok (.aload_n 0, 1) := by decide +kernel
theorem dX10_sum_14 : decode cX10_sum 14 = .ok (.bipush 43, 2) := by decide +kernel
theorem dX10_sum_16 : decode cX10_sum 16 = .ok (.invokevirtual 155, 3) := by decide +kernel
theorem dX10_sum_19 : decode cX10_sum 19 = .ok (.ifCond .eq 23, 3) := by decide +kernel
theorem dX10_sum_22 : decode cX10_sum 22 = .ok (.aload_n 0, 1) := by decide +kernel
theorem dX10_sum_23 : decode cX10_sum 23 = .ok (.dup, 1) := by decide +kernel
theorem dX10_sum_24 : decode cX10_sum 24 = .ok (.getfield 67, 3) := by decide +kernel
theorem dX10_sum_27 : decode cX10_sum 27 = .ok (.iconst 1, 1) := by decide +kernel
theorem dX10_sum_28 : decode cX10_sum 28 = .ok (.iadd, 1) := by decide +kernel
theorem dX10_sum_29 : decode cX10_sum 29 = .ok (.putfield 67, 3) := by decide +kernel
theorem dX10_sum_32 : decode cX10_sum 32 = .ok (.iload_n 1, 1) := by decide +kernel
theorem dX10_sum_33 : decode cX10_sum 33 = .ok (.aload_n 0, 1) := by decide +kernel
theorem dX10_sum_34 : decode cX10_sum 34 = .ok (.invokevirtual 185, 3) := by decide +kernel
theorem dX10_sum_37 : decode cX10_sum 37 = .ok (.iadd, 1) := by decide +kernel
theorem dX10_sum_38 : decode cX10_sum 38 = .ok (.istore_n 1, 1) := by decide +kernel
theorem dX10_sum_39 : decode cX10_sum 39 = .ok (.goto (-34), 3) := by decide +kernel
theorem dX10_sum_42 : decode cX10_sum 42 = .ok (.iload_n 1, 1) := by decide +kernel
theorem dX10_sum_43 : decode cX10_sum 43 = .ok (.ireturn, 1) := by decide +kernel
def lp_X10_sum_5  : Nat → Int32 → Mem → Option (Int32 × Mem)
  | 0, _, _ => none
  | n + 1, x2, μ3 => if (μ3 0 12 12) = (-1) then ((f_X10_isSign μ3 43).bind fun (q4 : Int32 × Mem) => if q4.1 = 0 then (some (x2, q4.2)) else (nm (upm q4.2 0 12 11 ((q4.2 0 12 11) + 1)) fun (μ5 : Mem) => (f_X10_part μ5).bind fun (q6 : Int32 × Mem) => lp_X10_sum_5 n (x2 + q6.1) q6.2)) else (some (x2, μ3))
def f_X10_sum (μ : Mem) : Option (Int32 × Mem) := (f_X10_part μ).bind fun (q1 : Int32 × Mem) => lp_X10_sum_5 4096 q1.1 q1.2
set_option maxHeartbeats 4000000 in
set_option maxRecDepth 100000 in
theorem c_X10_sum (G : GG) (l : Launch) (μ : Mem) : CI G l yX10_sum (.code yX10_sum cX10_sum 2 (some .int)) 12 [.ref (gad G 0 12)] μ (f_X10_sum μ) := by
  refine CI.of (own := "SaturdayKeepModel") (L0 := [some (.ref (gad G 0 12)), none]) rfl rfl rfl (Nat.le_of_ble_eq_true rfl) (fun C hl hC => ?_)
  subst hl
  delta f_X10_sum
  refine aw_aload_n (pc := 0) (i := 0) hC dX10_sum_0 rfl rfl ?_
  refine aw_callVI (pc := 1) (As := []) hC mb_X10_part kw1473 (by decide) (c_X10_part G C.2.1   μ ) (v0 (j := 12) (by decide)) rfl rfl rfl (Nat.le_of_ble_eq_true rfl) dX10_sum_1 (fun q1 => ?_)
  refine aw_istore_n (pc := 4) (i := 1) hC dX10_sum_4 rfl rfl (by decide) ?_
  have hL5 : ∀ (n : Nat) (x2 : Int32) (μ3 : Mem), AW G C (qI G C 0 0) 0 0 2 μ3 5 [some (.ref (gad G 0 12)), some (.int x2)] [] (lp_X10_sum_5 n x2 μ3) := by
    intro n
    induction n with
    | zero => intro x2 μ3; exact aw_none
    | succ n ih =>
      intro x2 μ3
      rw [lp_X10_sum_5]
      refine aw_aload_n (pc := 5) (i := 0) hC dX10_sum_5 rfl rfl ?_
      refine aw_get (pc := 6) hC inX10 (v0 (j := 12) (by decide)) rfl rfl 12 (by decide) kw1326 rfl rfl dX10_sum_6 ?_
      refine aw_iconst (pc := 9) (v := (-1)) hC dX10_sum_9 icm1 ?_
      refine aw_icmp_ne (pc := 10) (tgt := 42) hC dX10_sum_10 (by decide) (fun _ => ?_) (fun _ => ?_)
      · skip
        refine aw_aload_n (pc := 13) (i := 0) hC dX10_sum_13 rfl rfl ?_
        refine aw_bipush (pc := 14) (v := 43) hC dX10_sum_14 bc43 ?_
        refine aw_callVI (pc := 16) (As := [.int 43]) hC mb_X10_isSign kw1459 (by decide) (c_X10_isSign G C.2.1   μ3 43) (v0 (j := 12) (by decide)) rfl rfl rfl (Nat.le_of_ble_eq_true rfl) dX10_sum_16 (fun q4 => ?_)
        refine aw_if_eq (pc := 19) (tgt := 42) hC dX10_sum_19 (by decide) (fun _ => ?_) (fun _ => ?_)
        · skip
          refine aw_iload_n (pc := 42) (i := 1) hC dX10_sum_42 rfl rfl ?_
          exact aw_iret hC dX10_sum_43
        · skip
          refine aw_aload_n (pc := 22) (i := 0) hC dX10_sum_22 rfl rfl ?_
          refine aw_dup (pc := 23) hC dX10_sum_23 rfl ?_
          refine aw_get (pc := 24) hC inX10 (v0 (j := 12) (by decide)) rfl rfl 11 (by decide) kw1325 rfl rfl dX10_sum_24 ?_
          refine aw_iconst (pc := 27) (v := 1) hC dX10_sum_27 ic1 ?_
          refine aw_iadd (pc := 28) hC dX10_sum_28 ?_
          refine aw_putIN (pc := 29) hC inX10 (v0 (j := 12) (by decide)) rfl rfl 11 (by decide) kw1325 rfl tyX10 tyX10_ok nmX10 rfl rfl (Nat.le_of_ble_eq_true rfl) rfl dX10_sum_29 (fun μ5 => ?_)
          refine aw_iload_n (pc := 32) (i := 1) hC dX10_sum_32 rfl rfl ?_
          refine aw_aload_n (pc := 33) (i := 0) hC dX10_sum_33 rfl rfl ?_
          refine aw_callVI (pc := 34) (As := []) hC mb_X10_part kw1473 (by decide) (c_X10_part G C.2.1   μ5 ) (v0 (j := 12) (by decide)) rfl rfl rfl (Nat.le_of_ble_eq_true rfl) dX10_sum_34 (fun q6 => ?_)
          refine aw_iadd (pc := 37) hC dX10_sum_37 ?_
          refine aw_istore_n (pc := 38) (i := 1) hC dX10_sum_38 rfl rfl (by decide) ?_
          refine aw_goto (pc := 39) (tgt := 5) hC dX10_sum_39 (by decide) ?_
          exact ih (x2 + q6.1) q6.2
      · skip
        refine aw_iload_n (pc := 42) (i := 1) hC dX10_sum_42 rfl rfl ?_
        exact aw_iret hC dX10_sum_43
  exact hL5 4096 q1.1 q1.2
theorem dX10_plain_0 : decode cX10_plain 0 = .ok (.aload_n 0, 1) := by decide +kernel
theorem dX10_plain_1 : decode cX10_plain 1 = .ok (.ldc 112, 2) := by decide +kernel
theorem dX10_plain_3 : decode cX10_plain 3 = .ok (.invokevirtual 96, 3) := by decide +kernel
theorem dX10_plain_6 : decode cX10_plain 6 = .ok (.ifCond .eq 8, 3) := by decide +kernel
theorem dX10_plain_9 : decode cX10_plain 9 = .ok (.aload_n 0, 1) := by decide +kernel
theorem dX10_plain_10 : decode cX10_plain 10 = .ok (.getfield 188, 3) := by decide +kernel
theorem dX10_plain_13 : decode cX10_plain 13 = .ok (.ireturn, 1) := by decide +kernel
theorem dX10_plain_14 : decode cX10_plain 14 = .ok (.aload_n 0, 1) := by decide +kernel
theorem dX10_plain_15 : decode cX10_plain 15 = .ok (.ldc 192, 2) := by decide +kernel
theorem dX10_plain_17 : decode cX10_plain 17 = .ok (.invokevirtual 96, 3) := by decide +kernel
theorem dX10_plain_20 : decode cX10_plain 20 = .ok (.ifCond .eq 8, 3) := by decide +kernel
theorem dX10_plain_23 : decode cX10_plain 23 = .ok (.aload_n 0, 1) := by decide +kernel
theorem dX10_plain_24 : decode cX10_plain 24 = .ok (.getfield 194, 3) := by decide +kernel
theorem dX10_plain_27 : decode cX10_plain 27 = .ok (.ireturn, 1) := by decide +kernel
theorem dX10_plain_28 : decode cX10_plain 28 = .ok (.aload_n 0, 1) := by decide +kernel
theorem dX10_plain_29 : decode cX10_plain 29 = .ok (.invokevirtual 197, 3) := by decide +kernel
theorem dX10_plain_32 : decode cX10_plain 32 = .ok (.istore_n 1, 1) := by decide +kernel
theorem dX10_plain_33 : decode cX10_plain 33 = .ok (.aload_n 0, 1) := by decide +kernel
theorem dX10_plain_34 : decode cX10_plain 34 = .ok (.getfield 25, 3) := by decide +kernel
theorem dX10_plain_37 : decode cX10_plain 37 = .ok (.iconst (-1), 1) := by decide +kernel
theorem dX10_plain_38 : decode cX10_plain 38 = .ok (.if_icmp .eq 5, 3) := by decide +kernel
theorem dX10_plain_41 : decode cX10_plain 41 = .ok (.iconst 0, 1) := by decide +kernel
theorem dX10_plain_42 : decode cX10_plain 42 = .ok (.ireturn, 1) := by decide +kernel
theorem dX10_plain_43 : decode cX10_plain 43 = .ok (.aload_n 0, 1) := by decide +kernel
theorem dX10_plain_44 : decode cX10_plain 44 = .ok (.bipush 60, 2) := by decide +kernel
theorem dX10_plain_46 : decode cX10_plain 46 = .ok (.invokevirtual 155, 3) := by decide +kernel
theorem dX10_plain_49 : decode cX10_plain 49 = .ok (.istore_n 2, 1) := by decide +kernel
theorem dX10_plain_50 : decode cX10_plain 50 = .ok (.iload_n 2, 1) := by decide +kernel
theorem dX10_plain_51 : decode cX10_plain 51 = .ok (.ifCond .ne 22, 3) := by decide +kernel
theorem dX10_plain_54 : decode cX10_plain 54 = .ok (.aload_n 0, 1) := by decide +kernel
theorem dX10_plain_55 : decode cX10_plain 55 = .ok (.bipush 62, 2) := by decide +kernel
theorem dX10_plain_57 : decode cX10_plain 57 = .ok (.invokevirtual 155, 3) := by decide +kernel
theorem dX10_plain_60 : decode cX10_plain 60 = .ok (.ifCond .ne 13, 3) := by decide +kernel
theorem dX10_plain_63 : decode cX10_plain 63 = .ok (.aload_n 0, 1) := by decide +kernel
theorem dX10_plain_64 : decode cX10_plain 64 = .ok (.aload_n 0, 1) := by decide +kernel
theorem dX10_plain_65 : decode cX10_plain 65 = .ok (.getfield 67, 3) := by decide +kernel
theorem dX10_plain_68 : decode cX10_plain 68 = .ok (.invokevirtual 92, 3) := by decide +kernel
theorem dX10_plain_71 : decode cX10_plain 71 = .ok (.iconst 0, 1) := by decide +kernel
theorem dX10_plain_72 : decode cX10_plain 72 = .ok (.ireturn, 1) := by decide +kernel
theorem dX10_plain_73 : decode cX10_plain 73 = .ok (.aload_n 0, 1) := by decide +kernel
theorem dX10_plain_74 : decode cX10_plain 74 = .ok (.dup, 1) := by decide +kernel
theorem dX10_plain_75 : decode cX10_plain 75 = .ok (.getfield 67, 3) := by decide +kernel
theorem dX10_plain_78 : decode cX10_plain 78 = .ok (.iconst 1, 1) := by decide +kernel
theorem dX10_plain_79 : decode cX10_plain 79 = .ok (.iadd, 1) := by decide +kernel
theorem dX10_plain_80 : decode cX10_plain 80 = .ok (.putfield 67, 3) := by decide +kernel
theorem dX10_plain_83 : decode cX10_plain 83 = .ok (.aload_n 0, 1) := by decide +kernel
theorem dX10_plain_84 : decode cX10_plain 84 = .ok (.invokevirtual 197, 3) := by decide +kernel
theorem dX10_plain_87 : decode cX10_plain 87 = .ok (.istore_n 3, 1) := by decide +kernel
theorem dX10_plain_88 : decode cX10_plain 88 = .ok (.iload_n 2, 1) := by decide +kernel
theorem dX10_plain_89 : decode cX10_plain 89 = .ok (.ifCond .eq 16, 3) := by decide +kernel
theorem dX10_plain_92 : decode cX10_plain 92 = .ok (.iload_n 1, 1) := by decide +kernel
theorem dX10_plain_93 : decode cX10_plain 93 = .ok (.iload_n 3, 1) := by decide +kernel
theorem dX10_plain_94 : decode cX10_plain 94 = .ok (.if_icmp .ge 7, 3) := by decide +kernel
theorem dX10_plain_97 : decode cX10_plain 97 = .ok (.iconst 1, 1) := by decide +kernel
theorem dX10_plain_98 : decode cX10_plain 98 = .ok (.goto 17, 3) := by decide +kernel
theorem dX10_plain_101 : decode cX10_plain 101 = .ok (.iconst 0, 1) := by decide +kernel
theorem dX10_plain_102 : decode cX10_plain 102 = .ok (.goto 13, 3) := by decide +kernel
theorem dX10_plain_105 : decode cX10_plain 105 = .ok (.iload_n 1, 1) := by decide +kernel
theorem dX10_plain_106 : decode cX10_plain 106 = .ok (.iload_n 3, 1) := by decide +kernel
theorem dX10_plain_107 : decode cX10_plain 107 = .ok (.if_icmp .le 7, 3) := by decide +kernel
theorem dX10_plain_110 : decode cX10_plain 110 = .ok (.iconst 1, 1) := by decide +kernel
theorem dX10_plain_111 : decode cX10_plain 111 = .ok (.goto 4, 3) := by decide +kernel
theorem dX10_plain_114 : decode cX10_plain 114 = .ok (.iconst 0, 1) := by decide +kernel
theorem dX10_plain_115 : decode cX10_plain 115 = .ok (.ireturn, 1) := by decide +kernel
def f_X10_plain (μ : Mem) : Option (Int32 × Mem) := (f_X10_has 48 μ).bind fun (q1 : Int32 × Mem) => if q1.1 = 0 then ((f_X10_has 49 q1.2).bind fun (q2 : Int32 × Mem) => if q2.1 = 0 then ((f_X10_sum q2.2).bind fun (q3 : Int32 × Mem) => if (q3.2 0 12 12) = (-1) then ((f_X10_isSign q3.2 60).bind fun (q4 : Int32 × Mem) => nm (fun (μ5 : Mem) => nm (upm μ5 0 12 11 ((μ5 0 12 11) + 1)) fun (μ6 : Mem) => (f_X10_sum μ6).bind fun (q7 : Int32 × Mem) => if q4.1 = 0 then (if q3.1 ≤ q7.1 then (some (0, q7.2)) else (some (1, q7.2))) else (if q7.1 ≤ q3.1 then (some (0, q7.2)) else (some (1, q7.2)))) fun (J73 : Mem → Option (Int32 × Mem)) => if q4.1 = 0 then ((f_X10_isSign q4.2 62).bind fun (q8 : Int32 × Mem) => if q8.1 = 0 then ((f_X10_wrong q8.2 (q8.2 0 12 11)).bind fun (q9 : Mem) => some (0, q9)) else (J73 q8.2)) else (J73 q4.2)) else (some (0, q3.2))) else (bk (q2.2 0 12 16) (some ((q2.2 0 12 16), q2.2)))) else (bk (q1.2 0 12 15) (some ((q1.2 0 12 15), q1.2)))
set_option maxHeartbeats 4000000 in
set_option maxRecDepth 100000 in
theorem c_X10_plain (G : GG) (l : Launch) (μ : Mem) : CI G l yX10_plain (.code yX10_plain cX10_plain 4 (some .boolean)) 13 [.ref (gad G 0 12)] μ (f_X10_plain μ) := by
  refine CI.of (own := "SaturdayKeepModel") (L0 := [some (.ref (gad G 0 12)), none, none, none]) rfl rfl rfl (Nat.le_of_ble_eq_true rfl) (fun C hl hC => ?_)
  subst hl
  delta f_X10_plain
  refine aw_aload_n (pc := 0) (i := 0) hC dX10_plain_0 rfl rfl ?_
  refine aw_ldcS (pc := 1) (i := 48) hC rfl dX10_plain_1 ?_
  refine aw_callVI (pc := 3) (As := [.ref (gsK G 48)]) hC mb_X10_has kw1430 (by decide) (c_X10_has G C.2.1 48 (by decide) μ ) (v0 (j := 12) (by decide)) rfl rfl rfl (Nat.le_of_ble_eq_true rfl) dX10_plain_3 (fun q1 => ?_)
  refine aw_if_eq (pc := 6) (tgt := 14) hC dX10_plain_6 (by decide) (fun _ => ?_) (fun _ => ?_)
  · skip
    refine aw_aload_n (pc := 14) (i := 0) hC dX10_plain_14 rfl rfl ?_
    refine aw_ldcS (pc := 15) (i := 49) hC rfl dX10_plain_15 ?_
    refine aw_callVI (pc := 17) (As := [.ref (gsK G 49)]) hC mb_X10_has kw1430 (by decide) (c_X10_has G C.2.1 49 (by decide) q1.2 ) (v0 (j := 12) (by decide)) rfl rfl rfl (Nat.le_of_ble_eq_true rfl) dX10_plain_17 (fun q2 => ?_)
    refine aw_if_eq (pc := 20) (tgt := 28) hC dX10_plain_20 (by decide) (fun _ => ?_) (fun _ => ?_)
    · skip
      refine aw_aload_n (pc := 28) (i := 0) hC dX10_plain_28 rfl rfl ?_
      refine aw_callVI (pc := 29) (As := []) hC mb_X10_sum kw1469 (by decide) (c_X10_sum G C.2.1   q2.2 ) (v0 (j := 12) (by decide)) rfl rfl rfl (Nat.le_of_ble_eq_true rfl) dX10_plain_29 (fun q3 => ?_)
      refine aw_istore_n (pc := 32) (i := 1) hC dX10_plain_32 rfl rfl (by decide) ?_
      refine aw_aload_n (pc := 33) (i := 0) hC dX10_plain_33 rfl rfl ?_
      refine aw_get (pc := 34) hC inX10 (v0 (j := 12) (by decide)) rfl rfl 12 (by decide) kw1326 rfl rfl dX10_plain_34 ?_
      refine aw_iconst (pc := 37) (v := (-1)) hC dX10_plain_37 icm1 ?_
      refine aw_icmp_eq (pc := 38) (tgt := 43) hC dX10_plain_38 (by decide) (fun _ => ?_) (fun _ => ?_)
      · skip
        refine aw_aload_n (pc := 43) (i := 0) hC dX10_plain_43 rfl rfl ?_
        refine aw_bipush (pc := 44) (v := 60) hC dX10_plain_44 bc60 ?_
        refine aw_callVI (pc := 46) (As := [.int 60]) hC mb_X10_isSign kw1459 (by decide) (c_X10_isSign G C.2.1   q3.2 60) (v0 (j := 12) (by decide)) rfl rfl rfl (Nat.le_of_ble_eq_true rfl) dX10_plain_46 (fun q4 => ?_)
        refine aw_istore_n (pc := 49) (i := 2) hC dX10_plain_49 rfl rfl (by decide) ?_
        refine aw_iload_n (pc := 50) (i := 2) hC dX10_plain_50 rfl rfl ?_
        refine aw_nmJ (fun (J73 : Mem → Option (Int32 × Mem)) => ∀ (μ5 : Mem), AW G C (qI G C 0 0) 0 0 4 μ5 73 [some (.ref (gad G 0 12)), some (.int q3.1), some (.int q4.1), none] [] (J73 μ5)) (fun μ5 => ?_) (fun J73 hJ73 => ?_)
        · skip
          refine aw_aload_n (pc := 73) (i := 0) hC dX10_plain_73 rfl rfl ?_
          refine aw_dup (pc := 74) hC dX10_plain_74 rfl ?_
          refine aw_get (pc := 75) hC inX10 (v0 (j := 12) (by decide)) rfl rfl 11 (by decide) kw1325 rfl rfl dX10_plain_75 ?_
          refine aw_iconst (pc := 78) (v := 1) hC dX10_plain_78 ic1 ?_
          refine aw_iadd (pc := 79) hC dX10_plain_79 ?_
          refine aw_putIN (pc := 80) hC inX10 (v0 (j := 12) (by decide)) rfl rfl 11 (by decide) kw1325 rfl tyX10 tyX10_ok nmX10 rfl rfl (Nat.le_of_ble_eq_true rfl) rfl dX10_plain_80 (fun μ6 => ?_)
          refine aw_aload_n (pc := 83) (i := 0) hC dX10_plain_83 rfl rfl ?_
          refine aw_callVI (pc := 84) (As := []) hC mb_X10_sum kw1469 (by decide) (c_X10_sum G C.2.1   μ6 ) (v0 (j := 12) (by decide)) rfl rfl rfl (Nat.le_of_ble_eq_true rfl) dX10_plain_84 (fun q7 => ?_)
          refine aw_istore_n (pc := 87) (i := 3) hC dX10_plain_87 rfl rfl (by decide) ?_
          refine aw_iload_n (pc := 88) (i := 2) hC dX10_plain_88 rfl rfl ?_
          refine aw_if_eq (pc := 89) (tgt := 105) hC dX10_plain_89 (by decide) (fun _ => ?_) (fun _ => ?_)
          · skip
            refine aw_iload_n (pc := 105) (i := 1) hC dX10_plain_105 rfl rfl ?_
            refine aw_iload_n (pc := 106) (i := 3) hC dX10_plain_106 rfl rfl ?_
            refine aw_icmp_le (pc := 107) (tgt := 114) hC dX10_plain_107 (by decide) (fun _ => ?_) (fun _ => ?_)
            · skip
              refine aw_iconst (pc := 114) (v := 0) hC dX10_plain_114 ic0 ?_
              exact aw_zret0 hC dX10_plain_115
            · skip
              refine aw_iconst (pc := 110) (v := 1) hC dX10_plain_110 ic1 ?_
              refine aw_goto (pc := 111) (tgt := 115) hC dX10_plain_111 (by decide) ?_
              exact aw_zret1 hC dX10_plain_115
          · skip
            refine aw_iload_n (pc := 92) (i := 1) hC dX10_plain_92 rfl rfl ?_
            refine aw_iload_n (pc := 93) (i := 3) hC dX10_plain_93 rfl rfl ?_
            refine aw_icmp_ge (pc := 94) (tgt := 101) hC dX10_plain_94 (by decide) (fun _ => ?_) (fun _ => ?_)
            · skip
              refine aw_iconst (pc := 101) (v := 0) hC dX10_plain_101 ic0 ?_
              refine aw_goto (pc := 102) (tgt := 115) hC dX10_plain_102 (by decide) ?_
              exact aw_zret0 hC dX10_plain_115
            · skip
              refine aw_iconst (pc := 97) (v := 1) hC dX10_plain_97 ic1 ?_
              refine aw_goto (pc := 98) (tgt := 115) hC dX10_plain_98 (by decide) ?_
              exact aw_zret1 hC dX10_plain_115
        · skip
          refine aw_if_ne (pc := 51) (tgt := 73) hC dX10_plain_51 (by decide) (fun _ => ?_) (fun _ => ?_)
          · skip
            refine aw_aload_n (pc := 54) (i := 0) hC dX10_plain_54 rfl rfl ?_
            refine aw_bipush (pc := 55) (v := 62) hC dX10_plain_55 bc62 ?_
            refine aw_callVI (pc := 57) (As := [.int 62]) hC mb_X10_isSign kw1459 (by decide) (c_X10_isSign G C.2.1   q4.2 62) (v0 (j := 12) (by decide)) rfl rfl rfl (Nat.le_of_ble_eq_true rfl) dX10_plain_57 (fun q8 => ?_)
            refine aw_if_ne (pc := 60) (tgt := 73) hC dX10_plain_60 (by decide) (fun _ => ?_) (fun _ => ?_)
            · skip
              refine aw_aload_n (pc := 63) (i := 0) hC dX10_plain_63 rfl rfl ?_
              refine aw_aload_n (pc := 64) (i := 0) hC dX10_plain_64 rfl rfl ?_
              refine aw_get (pc := 65) hC inX10 (v0 (j := 12) (by decide)) rfl rfl 11 (by decide) kw1325 rfl rfl dX10_plain_65 ?_
              refine aw_callVV (pc := 68) (As := [.int (q8.2 0 12 11)]) hC mb_X10_wrong kw1421 (by decide) (c_X10_wrong G C.2.1   q8.2 (q8.2 0 12 11)) (v0 (j := 12) (by decide)) rfl rfl rfl (Nat.le_of_ble_eq_true rfl) dX10_plain_68 (fun q9 => ?_)
              refine aw_iconst (pc := 71) (v := 0) hC dX10_plain_71 ic0 ?_
              exact aw_zret0 hC dX10_plain_72
            · skip
              exact hJ73 q8.2
          · skip
            exact hJ73 q4.2
      · skip
        refine aw_iconst (pc := 41) (v := 0) hC dX10_plain_41 ic0 ?_
        exact aw_zret0 hC dX10_plain_42
    · skip
      refine aw_aload_n (pc := 23) (i := 0) hC dX10_plain_23 rfl rfl ?_
      refine aw_get (pc := 24) hC inX10 (v0 (j := 12) (by decide)) rfl rfl 16 (by decide) kw1330 rfl rfl dX10_plain_24 ?_
      exact aw_zret hC dX10_plain_27
  · skip
    refine aw_aload_n (pc := 9) (i := 0) hC dX10_plain_9 rfl rfl ?_
    refine aw_get (pc := 10) hC inX10 (v0 (j := 12) (by decide)) rfl rfl 15 (by decide) kw1329 rfl rfl dX10_plain_10 ?_
    exact aw_zret hC dX10_plain_13
theorem dX10_after_0 : decode cX10_after 0 = .ok (.aload_n 0, 1) := by decide +kernel
theorem dX10_after_1 : decode cX10_after 1 = .ok (.getfield 25, 3) := by decide +kernel
theorem dX10_after_4 : decode cX10_after 4 = .ok (.iconst (-1), 1) := by decide +kernel
theorem dX10_after_5 : decode cX10_after 5 = .ok (.if_icmp .ne 19, 3) := by decide +kernel
theorem dX10_after_8 : decode cX10_after 8 = .ok (.aload_n 0, 1) := by decide +kernel
theorem dX10_after_9 : decode cX10_after 9 = .ok (.aload_n 1, 1) := by decide +kernel
theorem dX10_after_10 : decode cX10_after 10 = .ok (.invokevirtual 96, 3) := by decide +kernel
theorem dX10_after_13 : decode cX10_after 13 = .ok (.ifCond .ne 11, 3) := by decide +kernel
theorem dX10_after_16 : decode cX10_after 16 = .ok (.aload_n 0, 1) := by decide +kernel
theorem dX10_after_17 : decode cX10_after 17 = .ok (.aload_n 0, 1) := by decide +kernel
theorem dX10_after_18 : decode cX10_after 18 = .ok (.getfield 67, 3) := by decide +kernel
theorem dX10_after_21 : decode cX10_after 21 = .ok (.invokevirtual 92, 3) := by decide +kernel
theorem dX10_after_24 : decode cX10_after 24 = .ok (.aload_n 0, 1) := by decide +kernel
theorem dX10_after_25 : decode cX10_after 25 = .ok (.iload_n 2, 1) := by decide +kernel
theorem dX10_after_26 : decode cX10_after 26 = .ok (.iload_n 3, 1) := by decide +kernel
theorem dX10_after_27 : decode cX10_after 27 = .ok (.invokevirtual 100, 3) := by decide +kernel
theorem dX10_after_30 : decode cX10_after 30 = .ok (.ireturn, 1) := by decide +kernel
def f_X10_after (a1 : Nat) (μ : Mem) (a2 : Int32) (a3 : Int32) : Option (Int32 × Mem) := nm (fun (μ1 : Mem) => (f_X10_figures μ1 a2 a3).bind fun (q2 : Int32 × Mem) => some (q2.1, q2.2)) fun (J24 : Mem → Option (Int32 × Mem)) => if (μ 0 12 12) = (-1) then ((f_X10_has a1 μ).bind fun (q3 : Int32 × Mem) => if q3.1 = 0 then ((f_X10_wrong q3.2 (q3.2 0 12 11)).bind fun (q4 : Mem) => J24 q4) else (J24 q3.2)) else (J24 μ)
set_option maxHeartbeats 4000000 in
set_option maxRecDepth 100000 in
theorem c_X10_after (G : GG) (l : Launch) (a1 : Nat) (ha1 : a1 < 68) (μ : Mem) (a2 : Int32) (a3 : Int32) : CI G l yX10_after (.code yX10_after cX10_after 4 (some .int)) 11 [.ref (gad G 0 12), .ref (gsK G a1), .int a2, .int a3] μ (f_X10_after a1 μ a2 a3) := by
  refine CI.of (own := "SaturdayKeepModel") (L0 := [some (.ref (gad G 0 12)), some (.ref (gsK G a1)), some (.int a2), some (.int a3)]) rfl rfl rfl (Nat.le_of_ble_eq_true rfl) (fun C hl hC => ?_)
  subst hl
  delta f_X10_after
  refine aw_aload_n (pc := 0) (i := 0) hC dX10_after_0 rfl rfl ?_
  refine aw_get (pc := 1) hC inX10 (v0 (j := 12) (by decide)) rfl rfl 12 (by decide) kw1326 rfl rfl dX10_after_1 ?_
  refine aw_iconst (pc := 4) (v := (-1)) hC dX10_after_4 icm1 ?_
  refine aw_nmJ (fun (J24 : Mem → Option (Int32 × Mem)) => ∀ (μ1 : Mem), AW G C (qI G C 0 0) 0 0 4 μ1 24 [some (.ref (gad G 0 12)), none, some (.int a2), some (.int a3)] [] (J24 μ1)) (fun μ1 => ?_) (fun J24 hJ24 => ?_)
  · skip
    refine aw_aload_n (pc := 24) (i := 0) hC dX10_after_24 rfl rfl ?_
    refine aw_iload_n (pc := 25) (i := 2) hC dX10_after_25 rfl rfl ?_
    refine aw_iload_n (pc := 26) (i := 3) hC dX10_after_26 rfl rfl ?_
    refine aw_callVI (pc := 27) (As := [.int a2, .int a3]) hC mb_X10_figures kw1437 (by decide) (c_X10_figures G C.2.1   μ1 a2 a3) (v0 (j := 12) (by decide)) rfl rfl rfl (Nat.le_of_ble_eq_true rfl) dX10_after_27 (fun q2 => ?_)
    exact aw_iret hC dX10_after_30
  · skip
    refine aw_icmp_ne (pc := 5) (tgt := 24) hC dX10_after_5 (by decide) (fun _ => ?_) (fun _ => ?_)
    · skip
      refine aw_aload_n (pc := 8) (i := 0) hC dX10_after_8 rfl rfl ?_
      refine aw_aload_n (pc := 9) (i := 1) hC dX10_after_9 rfl rfl ?_
      refine aw_callVI (pc := 10) (As := [.ref (gsK G a1)]) hC mb_X10_has kw1430 (by decide) (c_X10_has G C.2.1 a1 ha1 μ ) (v0 (j := 12) (by decide)) rfl rfl rfl (Nat.le_of_ble_eq_true rfl) dX10_after_10 (fun q3 => ?_)
      refine aw_if_ne (pc := 13) (tgt := 24) hC dX10_after_13 (by decide) (fun _ => ?_) (fun _ => ?_)
      · skip
        refine aw_aload_n (pc := 16) (i := 0) hC dX10_after_16 rfl rfl ?_
        refine aw_aload_n (pc := 17) (i := 0) hC dX10_after_17 rfl rfl ?_
        refine aw_get (pc := 18) hC inX10 (v0 (j := 12) (by decide)) rfl rfl 11 (by decide) kw1325 rfl rfl dX10_after_18 ?_
        refine aw_callVV (pc := 21) (As := [.int (q3.2 0 12 11)]) hC mb_X10_wrong kw1421 (by decide) (c_X10_wrong G C.2.1   q3.2 (q3.2 0 12 11)) (v0 (j := 12) (by decide)) rfl rfl rfl (Nat.le_of_ble_eq_true rfl) dX10_after_21 (fun q4 => ?_)
        exact aw_drop [1] (hJ24 q4)
      · skip
        exact aw_drop [1] (hJ24 q3.2)
    · skip
      exact aw_drop [1] (hJ24 μ)
theorem dX10_put_0 : decode cX10_put 0 = .ok (.aload_n 0, 1) := by decide +kernel
theorem dX10_put_1 : decode cX10_put 1 = .ok (.getfield 7, 3) := by decide +kernel
theorem dX10_put_4 : decode cX10_put 4 = .ok (.bipush 24, 2) := by decide +kernel
theorem dX10_put_6 : decode cX10_put 6 = .ok (.iconst 5, 1) := by decide +kernel
theorem dX10_put_7 : decode cX10_put 7 = .ok (.iload_n 1, 1) := by decide +kernel
theorem dX10_put_8 : decode cX10_put 8 = .ok (.imul, 1) := by decide +kernel
theorem dX10_put_9 : decode cX10_put 9 = .ok (.iadd, 1) := by decide +kernel
theorem dX10_put_10 : decode cX10_put 10 = .ok (.iload_n 2, 1) := by decide +kernel
theorem dX10_put_11 : decode cX10_put 11 = .ok (.iadd, 1) := by decide +kernel
theorem dX10_put_12 : decode cX10_put 12 = .ok (.iload_n 3, 1) := by decide +kernel
theorem dX10_put_13 : decode cX10_put 13 = .ok (.iastore, 1) := by decide +kernel
theorem dX10_put_14 : decode cX10_put 14 = .ok (.return_, 1) := by decide +kernel
def f_X10_put (μ : Mem) (a1 : Int32) (a2 : Int32) (a3 : Int32) : Option (Mem) := ix ((24 + (5 * a1)) + a2) 704 (nm (upm μ 0 13 ((24 + (5 * a1)) + a2).toNatClampNeg a3) fun (μ1 : Mem) => some μ1)
set_option maxHeartbeats 4000000 in
set_option maxRecDepth 100000 in
theorem c_X10_put (G : GG) (l : Launch) (μ : Mem) (a1 : Int32) (a2 : Int32) (a3 : Int32) : CV G l yX10_put (.code yX10_put cX10_put 4 none) 1 [.ref (gad G 0 12), .int a1, .int a2, .int a3] μ (f_X10_put μ a1 a2 a3) := by
  refine CV.of (own := "SaturdayKeepModel") (L0 := [some (.ref (gad G 0 12)), some (.int a1), some (.int a2), some (.int a3)]) rfl rfl rfl (Nat.le_of_ble_eq_true rfl) (fun C hl hC => ?_)
  subst hl
  delta f_X10_put
  refine aw_aload_n (pc := 0) (i := 0) hC dX10_put_0 rfl rfl ?_
  refine aw_get (pc := 1) hC inX10 (v0 (j := 12) (by decide)) rfl rfl 1 (by decide) kw1315 rfl rfl dX10_put_1 ?_
  refine aw_bipush (pc := 4) (v := 24) hC dX10_put_4 bc24 ?_
  refine aw_iconst (pc := 6) (v := 5) hC dX10_put_6 ic5 ?_
  refine aw_iload_n (pc := 7) (i := 1) hC dX10_put_7 rfl rfl ?_
  refine aw_imul (pc := 8) hC dX10_put_8 ?_
  refine aw_iadd (pc := 9) hC dX10_put_9 ?_
  refine aw_iload_n (pc := 10) (i := 2) hC dX10_put_10 rfl rfl ?_
  refine aw_iadd (pc := 11) hC dX10_put_11 ?_
  refine aw_iload_n (pc := 12) (i := 3) hC dX10_put_12 rfl rfl ?_
  refine aw_iastoreN (pc := 13) hC (v0 (j := 13) (by decide)) (fun _ => rfl) dX10_put_13 (fun μ1 => ?_)
  exact aw_vret hC dX10_put_14
theorem dX10_isGuest_0 : decode cX10_isGuest 0 = .ok (.iload_n 1, 1) := by decide +kernel
theorem dX10_isGuest_1 : decode cX10_isGuest 1 = .ok (.iconst 0, 1) := by decide +kernel
theorem dX10_isGuest_2 : decode cX10_isGuest 2 = .ok (.aload_n 0, 1) := by decide +kernel
theorem dX10_isGuest_3 : decode cX10_isGuest 3 = .ok (.getfield 7, 3) := by decide +kernel
theorem dX10_isGuest_6 : decode cX10_isGuest 6 = .ok (.iconst 3, 1) := by decide +kernel
theorem dX10_isGuest_7 : decode cX10_isGuest 7 = .ok (.iaload, 1) := by decide +kernel
theorem dX10_isGuest_8 : decode cX10_isGuest 8 = .ok (.iconst 1, 1) := by decide +kernel
theorem dX10_isGuest_9 : decode cX10_isGuest 9 = .ok (.isub, 1) := by decide +kernel
theorem dX10_isGuest_10 : decode cX10_isGuest 10 = .ok (.invokestatic 45, 3) := by decide +kernel
theorem dX10_isGuest_13 : decode cX10_isGuest 13 = .ok (.ireturn, 1) := by decide +kernel
def f_X10_isGuest (μ : Mem) (a1 : Int32) : Option (Int32) := ix 3 704 ((f_X10_isIn a1 0 ((μ 0 13 (Int32.toNatClampNeg 3)) - 1)).bind fun (q1 : Int32) => bk q1 (some q1))
set_option maxHeartbeats 4000000 in
set_option maxRecDepth 100000 in
theorem c_X10_isGuest (G : GG) (l : Launch) (μ : Mem) (a1 : Int32) : CR G l yX10_isGuest (.code yX10_isGuest cX10_isGuest 2 (some .boolean)) 2 [.ref (gad G 0 12), .int a1] μ (f_X10_isGuest μ a1) := by
  refine CR.of (own := "SaturdayKeepModel") (L0 := [some (.ref (gad G 0 12)), some (.int a1)]) rfl rfl rfl (Nat.le_of_ble_eq_true rfl) (fun C hl hC => ?_)
  subst hl
  delta f_X10_isGuest
  refine aw_iload_n (pc := 0) (i := 1) hC dX10_isGuest_0 rfl rfl ?_
  refine aw_iconst (pc := 1) (v := 0) hC dX10_isGuest_1 ic0 ?_
  refine aw_aload_n (pc := 2) (i := 0) hC dX10_isGuest_2 rfl rfl ?_
  refine aw_get (pc := 3) hC inX10 (v0 (j := 12) (by decide)) rfl rfl 1 (by decide) kw1315 rfl rfl dX10_isGuest_3 ?_
  refine aw_iconst (pc := 6) (v := 3) hC dX10_isGuest_6 ic3 ?_
  refine aw_iaload (pc := 7) hC (v0 (j := 13) (by decide)) rfl dX10_isGuest_7 ?_
  refine aw_iconst (pc := 8) (v := 1) hC dX10_isGuest_8 ic1 ?_
  refine aw_isub (pc := 9) hC dX10_isGuest_9 ?_
  refine aw_callSR (pc := 10) (As := [.int a1, .int 0, .int ((μ 0 13 (Int32.toNatClampNeg 3)) - 1)]) hC ms_X10_isIn kw1394 (by decide) (c_X10_isIn G C.2.1   μ a1 0 ((μ 0 13 (Int32.toNatClampNeg 3)) - 1)) rfl (Nat.le_of_ble_eq_true rfl) dX10_isGuest_10 (fun q1 => ?_)
  exact aw_zretR hC dX10_isGuest_13
theorem dX10_of_0 : decode cX10_of 0 = .ok (.aload_n 0, 1) := by decide +kernel
theorem dX10_of_1 : decode cX10_of 1 = .ok (.getfield 7, 3) := by decide +kernel
theorem dX10_of_4 : decode cX10_of 4 = .ok (.bipush 24, 2) := by decide +kernel
theorem dX10_of_6 : decode cX10_of 6 = .ok (.iconst 5, 1) := by decide +kernel
theorem dX10_of_7 : decode cX10_of 7 = .ok (.iload_n 1, 1) := by decide +kernel
theorem dX10_of_8 : decode cX10_of 8 = .ok (.imul, 1) := by decide +kernel
theorem dX10_of_9 : decode cX10_of 9 = .ok (.iadd, 1) := by decide +kernel
theorem dX10_of_10 : decode cX10_of 10 = .ok (.iload_n 2, 1) := by decide +kernel
theorem dX10_of_11 : decode cX10_of 11 = .ok (.iadd, 1) := by decide +kernel
theorem dX10_of_12 : decode cX10_of 12 = .ok (.iaload, 1) := by decide +kernel
theorem dX10_of_13 : decode cX10_of 13 = .ok (.ireturn, 1) := by decide +kernel
def f_X10_of (μ : Mem) (a1 : Int32) (a2 : Int32) : Option (Int32) := ix ((24 + (5 * a1)) + a2) 704 (some (μ 0 13 ((24 + (5 * a1)) + a2).toNatClampNeg))
set_option maxHeartbeats 4000000 in
set_option maxRecDepth 100000 in
theorem c_X10_of (G : GG) (l : Launch) (μ : Mem) (a1 : Int32) (a2 : Int32) : CR G l yX10_of (.code yX10_of cX10_of 3 (some .int)) 1 [.ref (gad G 0 12), .int a1, .int a2] μ (f_X10_of μ a1 a2) := by
  refine CR.of (own := "SaturdayKeepModel") (L0 := [some (.ref (gad G 0 12)), some (.int a1), some (.int a2)]) rfl rfl rfl (Nat.le_of_ble_eq_true rfl) (fun C hl hC => ?_)
  subst hl
  delta f_X10_of
  refine aw_aload_n (pc := 0) (i := 0) hC dX10_of_0 rfl rfl ?_
  refine aw_get (pc := 1) hC inX10 (v0 (j := 12) (by decide)) rfl rfl 1 (by decide) kw1315 rfl rfl dX10_of_1 ?_
  refine aw_bipush (pc := 4) (v := 24) hC dX10_of_4 bc24 ?_
  refine aw_iconst (pc := 6) (v := 5) hC dX10_of_6 ic5 ?_
  refine aw_iload_n (pc := 7) (i := 1) hC dX10_of_7 rfl rfl ?_
  refine aw_imul (pc := 8) hC dX10_of_8 ?_
  refine aw_iadd (pc := 9) hC dX10_of_9 ?_
  refine aw_iload_n (pc := 10) (i := 2) hC dX10_of_10 rfl rfl ?_
  refine aw_iadd (pc := 11) hC dX10_of_11 ?_
  refine aw_iaload (pc := 12) hC (v0 (j := 13) (by decide)) rfl dX10_of_12 ?_
  exact aw_iretR hC dX10_of_13
theorem dX10_bits_0 : decode cX10_bits 0 = .ok (.iconst 0, 1) := by decide +kernel
theorem dX10_bits_1 : decode cX10_bits 1 = .ok (.istore_n 1, 1) := by decide +kernel
theorem dX10_bits_2 : decode cX10_bits 2 = .ok (.iconst 0, 1) := by decide +kernel
theorem dX10_bits_3 : decode cX10_bits 3 = .ok (.istore_n 2, 1) := by decide +kernel
theorem dX10_bits_4 : decode cX10_bits 4 = .ok (.iload_n 2, 1) := by decide +kernel
theorem dX10_bits_5 : decode cX10_bits 5 = .ok (.bipush 31, 2) := by decide +kernel
theorem dX10_bits_7 : decode cX10_bits 7 = .ok (.if_icmp .ge 17, 3) := by decide +kernel
theorem dX10_bits_10 : decode cX10_bits 10 = .ok (.iload_n 1, 1) := by decide +kernel
theorem dX10_bits_11 : decode cX10_bits 11 = .ok (.iload_n 0, 1) := by decide +kernel
theorem dX10_bits_12 : decode cX10_bits 12 = .ok (.iload_n 2, 1) := by decide +kernel
theorem dX10_bits_13 : decode cX10_bits 13 = .ok (.ishr, 1) := by decide +kernel
theorem dX10_bits_14 : decode cX10_bits 14 = .ok (.iconst 1, 1) := by decide +kernel
theorem dX10_bits_15 : decode cX10_bits 15 = .ok (.iand, 1) := by decide +kernel
theorem dX10_bits_16 : decode cX10_bits 16 = .ok (.iadd, 1) := by decide +kernel
theorem dX10_bits_17 : decode cX10_bits 17 = .ok (.istore_n 1, 1) := by decide +kernel
theorem dX10_bits_18 : decode cX10_bits 18 = .ok (.iinc 2 1, 3) := by decide +kernel
theorem dX10_bits_21 : decode cX10_bits 21 = .ok (.goto (-17), 3) := by decide +kernel
theorem dX10_bits_24 : decode cX10_bits 24 = .ok (.iload_n 1, 1) := by decide +kernel
theorem dX10_bits_25 : decode cX10_bits 25 = .ok (.ireturn, 1) := by decide +kernel
def lp_X10_bits_4 (a1 : Int32) : Nat → Int32 → Int32 → Option (Int32)
  | 0, _, _ => none
  | n + 1, x1, x2 => if 31 ≤ x2 then (some x1) else (nm (x1 + ((jshr a1 x2) &&& 1)) fun (x3 : Int32) => lp_X10_bits_4 a1 n x3 (x2 + 1))
def f_X10_bits (a1 : Int32) : Option (Int32) := lp_X10_bits_4 a1 4096 0 0
set_option maxHeartbeats 4000000 in
set_option maxRecDepth 100000 in
theorem c_X10_bits (G : GG) (l : Launch) (μ : Mem) (a1 : Int32) : CR G l yX10_bits (.code yX10_bits cX10_bits 3 (some .int)) 1 [.int a1] μ (f_X10_bits a1) := by
  refine CR.of (own := "SaturdayKeepModel") (L0 := [some (.int a1), none, none]) rfl rfl rfl (Nat.le_of_ble_eq_true rfl) (fun C hl hC => ?_)
  subst hl
  delta f_X10_bits
  refine aw_iconst (pc := 0) (v := 0) hC dX10_bits_0 ic0 ?_
  refine aw_istore_n (pc := 1) (i := 1) hC dX10_bits_1 rfl rfl (by decide) ?_
  refine aw_iconst (pc := 2) (v := 0) hC dX10_bits_2 ic0 ?_
  refine aw_istore_n (pc := 3) (i := 2) hC dX10_bits_3 rfl rfl (by decide) ?_
  have hL4 : ∀ (n : Nat) (x1 : Int32) (x2 : Int32), AW G C (qR G C 0 0 μ) 0 0 3 μ 4 [some (.int a1), some (.int x1), some (.int x2)] [] (lp_X10_bits_4 a1 n x1 x2) := by
    intro n
    induction n with
    | zero => intro x1 x2; exact aw_none
    | succ n ih =>
      intro x1 x2
      rw [lp_X10_bits_4]
      refine aw_iload_n (pc := 4) (i := 2) hC dX10_bits_4 rfl rfl ?_
      refine aw_bipush (pc := 5) (v := 31) hC dX10_bits_5 bc31 ?_
      refine aw_icmp_ge (pc := 7) (tgt := 24) hC dX10_bits_7 (by decide) (fun _ => ?_) (fun _ => ?_)
      · skip
        refine aw_iload_n (pc := 24) (i := 1) hC dX10_bits_24 rfl rfl ?_
        exact aw_iretR hC dX10_bits_25
      · skip
        refine aw_iload_n (pc := 10) (i := 1) hC dX10_bits_10 rfl rfl ?_
        refine aw_iload_n (pc := 11) (i := 0) hC dX10_bits_11 rfl rfl ?_
        refine aw_iload_n (pc := 12) (i := 2) hC dX10_bits_12 rfl rfl ?_
        refine aw_ishr (pc := 13) hC dX10_bits_13 ?_
        refine aw_iconst (pc := 14) (v := 1) hC dX10_bits_14 ic1 ?_
        refine aw_iand (pc := 15) hC dX10_bits_15 ?_
        refine aw_iadd (pc := 16) hC dX10_bits_16 ?_
        refine aw_nmI (fun x3 _ => ?_)
        refine aw_istore_n (pc := 17) (i := 1) hC dX10_bits_17 rfl rfl (by decide) ?_
        refine aw_iinc (pc := 18) (v := x2 + 1) hC dX10_bits_18 rfl (congrArg (HAdd.hAdd _) ic1) rfl (by decide) ?_
        refine aw_goto (pc := 21) (tgt := 4) hC dX10_bits_21 (by decide) ?_
        exact ih x3 (x2 + 1)
  exact hL4 4096 0 0
theorem dX10_isSaturday_0 : decode cX10_isSaturday 0 = .ok (.iload_n 2, 1) := by decide +kernel
theorem dX10_isSaturday_1 : decode cX10_isSaturday 1 = .ok (.aload_n 0, 1) := by decide +kernel
theorem dX10_isSaturday_2 : decode cX10_isSaturday 2 = .ok (.getfield 7, 3) := by decide +kernel
theorem dX10_isSaturday_5 : decode cX10_isSaturday 5 = .ok (.bipush 12, 2) := by decide +kernel
theorem dX10_isSaturday_7 : decode cX10_isSaturday 7 = .ok (.iload_n 1, 1) := by decide +kernel
theorem dX10_isSaturday_8 : decode cX10_isSaturday 8 = .ok (.iadd, 1) := by decide +kernel
theorem dX10_isSaturday_9 : decode cX10_isSaturday 9 = .ok (.iaload, 1) := by decide +kernel
theorem dX10_isSaturday_10 : decode cX10_isSaturday 10 = .ok (.iadd, 1) := by decide +kernel
theorem dX10_isSaturday_11 : decode cX10_isSaturday 11 = .ok (.bipush 7, 2) := by decide +kernel
theorem dX10_isSaturday_13 : decode cX10_isSaturday 13 = .ok (.irem, 1) := by decide +kernel
theorem dX10_isSaturday_14 : decode cX10_isSaturday 14 = .ok (.bipush 6, 2) := by decide +kernel
theorem dX10_isSaturday_16 : decode cX10_isSaturday 16 = .ok (.if_icmp .ne 7, 3) := by decide +kernel
theorem dX10_isSaturday_19 : decode cX10_isSaturday 19 = .ok (.iconst 1, 1) := by decide +kernel
theorem dX10_isSaturday_20 : decode cX10_isSaturday 20 = .ok (.goto 4, 3) := by decide +kernel
theorem dX10_isSaturday_23 : decode cX10_isSaturday 23 = .ok (.iconst 0, 1) := by decide +kernel
theorem dX10_isSaturday_24 : decode cX10_isSaturday 24 = .ok (.ireturn, 1) := by decide +kernel
def f_X10_isSaturday (μ : Mem) (a1 : Int32) (a2 : Int32) : Option (Int32) := ix (12 + a1) 704 (if (jrem (a2 + (μ 0 13 (12 + a1).toNatClampNeg)) 7) = 6 then (some 1) else (some 0))
set_option maxHeartbeats 4000000 in
set_option maxRecDepth 100000 in
theorem c_X10_isSaturday (G : GG) (l : Launch) (μ : Mem) (a1 : Int32) (a2 : Int32) : CR G l yX10_isSaturday (.code yX10_isSaturday cX10_isSaturday 3 (some .boolean)) 1 [.ref (gad G 0 12), .int a1, .int a2] μ (f_X10_isSaturday μ a1 a2) := by
  refine CR.of (own := "SaturdayKeepModel") (L0 := [some (.ref (gad G 0 12)), some (.int a1), some (.int a2)]) rfl rfl rfl (Nat.le_of_ble_eq_true rfl) (fun C hl hC => ?_)
  subst hl
  delta f_X10_isSaturday
  refine aw_iload_n (pc := 0) (i := 2) hC dX10_isSaturday_0 rfl rfl ?_
  refine aw_aload_n (pc := 1) (i := 0) hC dX10_isSaturday_1 rfl rfl ?_
  refine aw_get (pc := 2) hC inX10 (v0 (j := 12) (by decide)) rfl rfl 1 (by decide) kw1315 rfl rfl dX10_isSaturday_2 ?_
  refine aw_bipush (pc := 5) (v := 12) hC dX10_isSaturday_5 bc12 ?_
  refine aw_iload_n (pc := 7) (i := 1) hC dX10_isSaturday_7 rfl rfl ?_
  refine aw_iadd (pc := 8) hC dX10_isSaturday_8 ?_
  refine aw_iaload (pc := 9) hC (v0 (j := 13) (by decide)) rfl dX10_isSaturday_9 ?_
  refine aw_iadd (pc := 10) hC dX10_isSaturday_10 ?_
  refine aw_bipush (pc := 11) (v := 7) hC dX10_isSaturday_11 bc7 ?_
  refine aw_irem (pc := 13) hC dX10_isSaturday_13 (by decide) ?_
  refine aw_bipush (pc := 14) (v := 6) hC dX10_isSaturday_14 bc6 ?_
  refine aw_icmp_ne (pc := 16) (tgt := 23) hC dX10_isSaturday_16 (by decide) (fun _ => ?_) (fun _ => ?_)
  · skip
    refine aw_iconst (pc := 19) (v := 1) hC dX10_isSaturday_19 ic1 ?_
    refine aw_goto (pc := 20) (tgt := 24) hC dX10_isSaturday_20 (by decide) ?_
    exact aw_zret1R hC dX10_isSaturday_24
  · skip
    refine aw_iconst (pc := 23) (v := 0) hC dX10_isSaturday_23 ic0 ?_
    exact aw_zret0R hC dX10_isSaturday_24
theorem dX10_isHere_0 : decode cX10_isHere 0 = .ok (.aload_n 0, 1) := by decide +kernel
theorem dX10_isHere_1 : decode cX10_isHere 1 = .ok (.iload_n 1, 1) := by decide +kernel
theorem dX10_isHere_2 : decode cX10_isHere 2 = .ok (.iconst 4, 1) := by decide +kernel
theorem dX10_isHere_3 : decode cX10_isHere 3 = .ok (.invokevirtual 49, 3) := by decide +kernel
theorem dX10_isHere_6 : decode cX10_isHere 6 = .ok (.iconst 1, 1) := by decide +kernel
theorem dX10_isHere_7 : decode cX10_isHere 7 = .ok (.if_icmp .ne 7, 3) := by decide +kernel
theorem dX10_isHere_10 : decode cX10_isHere 10 = .ok (.iconst 1, 1) := by decide +kernel
theorem dX10_isHere_11 : decode cX10_isHere 11 = .ok (.goto 4, 3) := by decide +kernel
theorem dX10_isHere_14 : decode cX10_isHere 14 = .ok (.iconst 0, 1) := by decide +kernel
theorem dX10_isHere_15 : decode cX10_isHere 15 = .ok (.ireturn, 1) := by decide +kernel
def f_X10_isHere (μ : Mem) (a1 : Int32) : Option (Int32) := (f_X10_of μ a1 4).bind fun (q1 : Int32) => if q1 = 1 then (some 1) else (some 0)
set_option maxHeartbeats 4000000 in
set_option maxRecDepth 100000 in
theorem c_X10_isHere (G : GG) (l : Launch) (μ : Mem) (a1 : Int32) : CR G l yX10_isHere (.code yX10_isHere cX10_isHere 2 (some .boolean)) 2 [.ref (gad G 0 12), .int a1] μ (f_X10_isHere μ a1) := by
  refine CR.of (own := "SaturdayKeepModel") (L0 := [some (.ref (gad G 0 12)), some (.int a1)]) rfl rfl rfl (Nat.le_of_ble_eq_true rfl) (fun C hl hC => ?_)
  subst hl
  delta f_X10_isHere
  refine aw_aload_n (pc := 0) (i := 0) hC dX10_isHere_0 rfl rfl ?_
  refine aw_iload_n (pc := 1) (i := 1) hC dX10_isHere_1 rfl rfl ?_
  refine aw_iconst (pc := 2) (v := 4) hC dX10_isHere_2 ic4 ?_
  refine aw_callVR (pc := 3) (As := [.int a1, .int 4]) hC mb_X10_of kw1539 (by decide) (c_X10_of G C.2.1   μ a1 4) (v0 (j := 12) (by decide)) rfl rfl rfl (Nat.le_of_ble_eq_true rfl) dX10_isHere_3 (fun q1 => ?_)
  refine aw_iconst (pc := 6) (v := 1) hC dX10_isHere_6 ic1 ?_
  refine aw_icmp_ne (pc := 7) (tgt := 14) hC dX10_isHere_7 (by decide) (fun _ => ?_) (fun _ => ?_)
  · skip
    refine aw_iconst (pc := 10) (v := 1) hC dX10_isHere_10 ic1 ?_
    refine aw_goto (pc := 11) (tgt := 15) hC dX10_isHere_11 (by decide) ?_
    exact aw_zret1R hC dX10_isHere_15
  · skip
    refine aw_iconst (pc := 14) (v := 0) hC dX10_isHere_14 ic0 ?_
    exact aw_zret0R hC dX10_isHere_15
theorem dX10_isOf_0 : decode cX10_isOf 0 = .ok (.iload_n 0, 1) := by decide +kernel
theorem dX10_isOf_1 : decode cX10_isOf 1 = .ok (.iload_n 1, 1) := by decide +kernel
theorem dX10_isOf_2 : decode cX10_isOf 2 = .ok (.ishr, 1) := by decide +kernel
theorem dX10_isOf_3 : decode cX10_isOf 3 = .ok (.iconst 1, 1) := by decide +kernel
theorem dX10_isOf_4 : decode cX10_isOf 4 = .ok (.iand, 1) := by decide +kernel
theorem dX10_isOf_5 : decode cX10_isOf 5 = .ok (.iconst 1, 1) := by decide +kernel
theorem dX10_isOf_6 : decode cX10_isOf 6 = .ok (.if_icmp .ne 7, 3) := by decide +kernel
theorem dX10_isOf_9 : decode cX10_isOf 9 = .ok (.iconst 1, 1) := by decide +kernel
theorem dX10_isOf_10 : decode cX10_isOf 10 = .ok (.goto 4, 3) := by decide +kernel
theorem dX10_isOf_13 : decode cX10_isOf 13 = .ok (.iconst 0, 1) := by decide +kernel
theorem dX10_isOf_14 : decode cX10_isOf 14 = .ok (.ireturn, 1) := by decide +kernel
def f_X10_isOf (a1 : Int32) (a2 : Int32) : Option (Int32) := if ((jshr a1 a2) &&& 1) = 1 then (some 1) else (some 0)
set_option maxHeartbeats 4000000 in
set_option maxRecDepth 100000 in
theorem c_X10_isOf (G : GG) (l : Launch) (μ : Mem) (a1 : Int32) (a2 : Int32) : CR G l yX10_isOf (.code yX10_isOf cX10_isOf 2 (some .boolean)) 1 [.int a1, .int a2] μ (f_X10_isOf a1 a2) := by
  refine CR.of (own := "SaturdayKeepModel") (L0 := [some (.int a1), some (.int a2)]) rfl rfl rfl (Nat.le_of_ble_eq_true rfl) (fun C hl hC => ?_)
  subst hl
  delta f_X10_isOf
  refine aw_iload_n (pc := 0) (i := 0) hC dX10_isOf_0 rfl rfl ?_
  refine aw_iload_n (pc := 1) (i := 1) hC dX10_isOf_1 rfl rfl ?_
  refine aw_ishr (pc := 2) hC dX10_isOf_2 ?_
  refine aw_iconst (pc := 3) (v := 1) hC dX10_isOf_3 ic1 ?_
  refine aw_iand (pc := 4) hC dX10_isOf_4 ?_
  refine aw_iconst (pc := 5) (v := 1) hC dX10_isOf_5 ic1 ?_
  refine aw_icmp_ne (pc := 6) (tgt := 13) hC dX10_isOf_6 (by decide) (fun _ => ?_) (fun _ => ?_)
  · skip
    refine aw_iconst (pc := 9) (v := 1) hC dX10_isOf_9 ic1 ?_
    refine aw_goto (pc := 10) (tgt := 14) hC dX10_isOf_10 (by decide) ?_
    exact aw_zret1R hC dX10_isOf_14
  · skip
    refine aw_iconst (pc := 13) (v := 0) hC dX10_isOf_13 ic0 ?_
    exact aw_zret0R hC dX10_isOf_14
theorem dX10_isHole_0 : decode cX10_isHole 0 = .ok (.aload_n 0, 1) := by decide +kernel
theorem dX10_isHole_1 : decode cX10_isHole 1 = .ok (.getfield 7, 3) := by decide +kernel
theorem dX10_isHole_4 : decode cX10_isHole 4 = .ok (.bipush 16, 2) := by decide +kernel
theorem dX10_isHole_6 : decode cX10_isHole 6 = .ok (.iload_n 1, 1) := by decide +kernel
theorem dX10_isHole_7 : decode cX10_isHole 7 = .ok (.iadd, 1) := by decide +kernel
theorem dX10_isHole_8 : decode cX10_isHole 8 = .ok (.iaload, 1) := by decide +kernel
theorem dX10_isHole_9 : decode cX10_isHole 9 = .ok (.iload_n 2, 1) := by decide +kernel
theorem dX10_isHole_10 : decode cX10_isHole 10 = .ok (.invokestatic 53, 3) := by decide +kernel
theorem dX10_isHole_13 : decode cX10_isHole 13 = .ok (.ireturn, 1) := by decide +kernel
def f_X10_isHole (μ : Mem) (a1 : Int32) (a2 : Int32) : Option (Int32) := ix (16 + a1) 704 ((f_X10_isOf (μ 0 13 (16 + a1).toNatClampNeg) a2).bind fun (q1 : Int32) => bk q1 (some q1))
set_option maxHeartbeats 4000000 in
set_option maxRecDepth 100000 in
theorem c_X10_isHole (G : GG) (l : Launch) (μ : Mem) (a1 : Int32) (a2 : Int32) : CR G l yX10_isHole (.code yX10_isHole cX10_isHole 3 (some .boolean)) 2 [.ref (gad G 0 12), .int a1, .int a2] μ (f_X10_isHole μ a1 a2) := by
  refine CR.of (own := "SaturdayKeepModel") (L0 := [some (.ref (gad G 0 12)), some (.int a1), some (.int a2)]) rfl rfl rfl (Nat.le_of_ble_eq_true rfl) (fun C hl hC => ?_)
  subst hl
  delta f_X10_isHole
  refine aw_aload_n (pc := 0) (i := 0) hC dX10_isHole_0 rfl rfl ?_
  refine aw_get (pc := 1) hC inX10 (v0 (j := 12) (by decide)) rfl rfl 1 (by decide) kw1315 rfl rfl dX10_isHole_1 ?_
  refine aw_bipush (pc := 4) (v := 16) hC dX10_isHole_4 bc16 ?_
  refine aw_iload_n (pc := 6) (i := 1) hC dX10_isHole_6 rfl rfl ?_
  refine aw_iadd (pc := 7) hC dX10_isHole_7 ?_
  refine aw_iaload (pc := 8) hC (v0 (j := 13) (by decide)) rfl dX10_isHole_8 ?_
  refine aw_iload_n (pc := 9) (i := 2) hC dX10_isHole_9 rfl rfl ?_
  refine aw_callSR (pc := 10) (As := [.int (μ 0 13 (16 + a1).toNatClampNeg), .int a2]) hC ms_X10_isOf kw1578 (by decide) (c_X10_isOf G C.2.1   μ (μ 0 13 (16 + a1).toNatClampNeg) a2) rfl (Nat.le_of_ble_eq_true rfl) dX10_isHole_10 (fun q1 => ?_)
  exact aw_zretR hC dX10_isHole_13
theorem dX10_isRoom_0 : decode cX10_isRoom 0 = .ok (.iload_n 0, 1) := by decide +kernel
theorem dX10_isRoom_1 : decode cX10_isRoom 1 = .ok (.iconst 0, 1) := by decide +kernel
theorem dX10_isRoom_2 : decode cX10_isRoom 2 = .ok (.bipush 7, 2) := by decide +kernel
theorem dX10_isRoom_4 : decode cX10_isRoom 4 = .ok (.invokestatic 45, 3) := by decide +kernel
theorem dX10_isRoom_7 : decode cX10_isRoom 7 = .ok (.ireturn, 1) := by decide +kernel
def f_X10_isRoom (a1 : Int32) : Option (Int32) := (f_X10_isIn a1 0 7).bind fun (q1 : Int32) => bk q1 (some q1)
set_option maxHeartbeats 4000000 in
set_option maxRecDepth 100000 in
theorem c_X10_isRoom (G : GG) (l : Launch) (μ : Mem) (a1 : Int32) : CR G l yX10_isRoom (.code yX10_isRoom cX10_isRoom 1 (some .boolean)) 2 [.int a1] μ (f_X10_isRoom a1) := by
  refine CR.of (own := "SaturdayKeepModel") (L0 := [some (.int a1)]) rfl rfl rfl (Nat.le_of_ble_eq_true rfl) (fun C hl hC => ?_)
  subst hl
  delta f_X10_isRoom
  refine aw_iload_n (pc := 0) (i := 0) hC dX10_isRoom_0 rfl rfl ?_
  refine aw_iconst (pc := 1) (v := 0) hC dX10_isRoom_1 ic0 ?_
  refine aw_bipush (pc := 2) (v := 7) hC dX10_isRoom_2 bc7 ?_
  refine aw_callSR (pc := 4) (As := [.int a1, .int 0, .int 7]) hC ms_X10_isIn kw1394 (by decide) (c_X10_isIn G C.2.1   μ a1 0 7) rfl (Nat.le_of_ble_eq_true rfl) dX10_isRoom_4 (fun q1 => ?_)
  exact aw_zretR hC dX10_isRoom_7
theorem dX10_lesser_0 : decode cX10_lesser 0 = .ok (.iload_n 0, 1) := by decide +kernel
theorem dX10_lesser_1 : decode cX10_lesser 1 = .ok (.iload_n 1, 1) := by decide +kernel
theorem dX10_lesser_2 : decode cX10_lesser 2 = .ok (.if_icmp .ge 7, 3) := by decide +kernel
theorem dX10_lesser_5 : decode cX10_lesser 5 = .ok (.iload_n 0, 1) := by decide +kernel
theorem dX10_lesser_6 : decode cX10_lesser 6 = .ok (.goto 4, 3) := by decide +kernel
theorem dX10_lesser_9 : decode cX10_lesser 9 = .ok (.iload_n 1, 1) := by decide +kernel
theorem dX10_lesser_10 : decode cX10_lesser 10 = .ok (.ireturn, 1) := by decide +kernel
def f_X10_lesser (a1 : Int32) (a2 : Int32) : Option (Int32) := if a2 ≤ a1 then (some a2) else (some a1)
set_option maxHeartbeats 4000000 in
set_option maxRecDepth 100000 in
theorem c_X10_lesser (G : GG) (l : Launch) (μ : Mem) (a1 : Int32) (a2 : Int32) : CR G l yX10_lesser (.code yX10_lesser cX10_lesser 2 (some .int)) 1 [.int a1, .int a2] μ (f_X10_lesser a1 a2) := by
  refine CR.of (own := "SaturdayKeepModel") (L0 := [some (.int a1), some (.int a2)]) rfl rfl rfl (Nat.le_of_ble_eq_true rfl) (fun C hl hC => ?_)
  subst hl
  delta f_X10_lesser
  refine aw_iload_n (pc := 0) (i := 0) hC dX10_lesser_0 rfl rfl ?_
  refine aw_iload_n (pc := 1) (i := 1) hC dX10_lesser_1 rfl rfl ?_
  refine aw_icmp_ge (pc := 2) (tgt := 9) hC dX10_lesser_2 (by decide) (fun _ => ?_) (fun _ => ?_)
  · skip
    refine aw_iload_n (pc := 9) (i := 1) hC dX10_lesser_9 rfl rfl ?_
    exact aw_iretR hC dX10_lesser_10
  · skip
    refine aw_iload_n (pc := 5) (i := 0) hC dX10_lesser_5 rfl rfl ?_
    refine aw_goto (pc := 6) (tgt := 10) hC dX10_lesser_6 (by decide) ?_
    exact aw_iretR hC dX10_lesser_10
theorem dX10_greater_0 : decode cX10_greater 0 = .ok (.iload_n 0, 1) := by decide +kernel
theorem dX10_greater_1 : decode cX10_greater 1 = .ok (.iload_n 1, 1) := by decide +kernel
theorem dX10_greater_2 : decode cX10_greater 2 = .ok (.if_icmp .le 7, 3) := by decide +kernel
theorem dX10_greater_5 : decode cX10_greater 5 = .ok (.iload_n 0, 1) := by decide +kernel
theorem dX10_greater_6 : decode cX10_greater 6 = .ok (.goto 4, 3) := by decide +kernel
theorem dX10_greater_9 : decode cX10_greater 9 = .ok (.iload_n 1, 1) := by decide +kernel
theorem dX10_greater_10 : decode cX10_greater 10 = .ok (.ireturn, 1) := by decide +kernel
def f_X10_greater (a1 : Int32) (a2 : Int32) : Option (Int32) := if a1 ≤ a2 then (some a2) else (some a1)
set_option maxHeartbeats 4000000 in
set_option maxRecDepth 100000 in
theorem c_X10_greater (G : GG) (l : Launch) (μ : Mem) (a1 : Int32) (a2 : Int32) : CR G l yX10_greater (.code yX10_greater cX10_greater 2 (some .int)) 1 [.int a1, .int a2] μ (f_X10_greater a1 a2) := by
  refine CR.of (own := "SaturdayKeepModel") (L0 := [some (.int a1), some (.int a2)]) rfl rfl rfl (Nat.le_of_ble_eq_true rfl) (fun C hl hC => ?_)
  subst hl
  delta f_X10_greater
  refine aw_iload_n (pc := 0) (i := 0) hC dX10_greater_0 rfl rfl ?_
  refine aw_iload_n (pc := 1) (i := 1) hC dX10_greater_1 rfl rfl ?_
  refine aw_icmp_le (pc := 2) (tgt := 9) hC dX10_greater_2 (by decide) (fun _ => ?_) (fun _ => ?_)
  · skip
    refine aw_iload_n (pc := 9) (i := 1) hC dX10_greater_9 rfl rfl ?_
    exact aw_iretR hC dX10_greater_10
  · skip
    refine aw_iload_n (pc := 5) (i := 0) hC dX10_greater_5 rfl rfl ?_
    refine aw_goto (pc := 6) (tgt := 10) hC dX10_greater_6 (by decide) ?_
    exact aw_iretR hC dX10_greater_10
theorem dX10_holes_0 : decode cX10_holes 0 = .ok (.iconst 0, 1) := by decide +kernel
theorem dX10_holes_1 : decode cX10_holes 1 = .ok (.istore_n 1, 1) := by decide +kernel
theorem dX10_holes_2 : decode cX10_holes 2 = .ok (.iconst 0, 1) := by decide +kernel
theorem dX10_holes_3 : decode cX10_holes 3 = .ok (.istore_n 2, 1) := by decide +kernel
theorem dX10_holes_4 : decode cX10_holes 4 = .ok (.iload_n 2, 1) := by decide +kernel
theorem dX10_holes_5 : decode cX10_holes 5 = .ok (.bipush 8, 2) := by decide +kernel
theorem dX10_holes_7 : decode cX10_holes 7 = .ok (.if_icmp .ge 24, 3) := by decide +kernel
theorem dX10_holes_10 : decode cX10_holes 10 = .ok (.iload_n 1, 1) := by decide +kernel
theorem dX10_holes_11 : decode cX10_holes 11 = .ok (.aload_n 0, 1) := by decide +kernel
theorem dX10_holes_12 : decode cX10_holes 12 = .ok (.getfield 7, 3) := by decide +kernel
theorem dX10_holes_15 : decode cX10_holes 15 = .ok (.bipush 16, 2) := by decide +kernel
theorem dX10_holes_17 : decode cX10_holes 17 = .ok (.iload_n 2, 1) := by decide +kernel
theorem dX10_holes_18 : decode cX10_holes 18 = .ok (.iadd, 1) := by decide +kernel
theorem dX10_holes_19 : decode cX10_holes 19 = .ok (.iaload, 1) := by decide +kernel
theorem dX10_holes_20 : decode cX10_holes 20 = .ok (.invokestatic 57, 3) := by decide +kernel
theorem dX10_holes_23 : decode cX10_holes 23 = .ok (.iadd, 1) := by decide +kernel
theorem dX10_holes_24 : decode cX10_holes 24 = .ok (.istore_n 1, 1) := by decide +kernel
theorem dX10_holes_25 : decode cX10_holes 25 = .ok (.iinc 2 1, 3) := by decide +kernel
theorem dX10_holes_28 : decode cX10_holes 28 = .ok (.goto (-24), 3) := by decide +kernel
theorem dX10_holes_31 : decode cX10_holes 31 = .ok (.iload_n 1, 1) := by decide +kernel
theorem dX10_holes_32 : decode cX10_holes 32 = .ok (.ireturn, 1) := by decide +kernel
def lp_X10_holes_4 (μ : Mem) : Nat → Int32 → Int32 → Option (Int32)
  | 0, _, _ => none
  | n + 1, x1, x2 => if 8 ≤ x2 then (some x1) else (ix (16 + x2) 704 ((f_X10_bits (μ 0 13 (16 + x2).toNatClampNeg)).bind fun (q3 : Int32) => lp_X10_holes_4 μ n (x1 + q3) (x2 + 1)))
def f_X10_holes (μ : Mem) : Option (Int32) := lp_X10_holes_4 μ 4096 0 0
set_option maxHeartbeats 4000000 in
set_option maxRecDepth 100000 in
theorem c_X10_holes (G : GG) (l : Launch) (μ : Mem) : CR G l yX10_holes (.code yX10_holes cX10_holes 3 (some .int)) 2 [.ref (gad G 0 12)] μ (f_X10_holes μ) := by
  refine CR.of (own := "SaturdayKeepModel") (L0 := [some (.ref (gad G 0 12)), none, none]) rfl rfl rfl (Nat.le_of_ble_eq_true rfl) (fun C hl hC => ?_)
  subst hl
  delta f_X10_holes
  refine aw_iconst (pc := 0) (v := 0) hC dX10_holes_0 ic0 ?_
  refine aw_istore_n (pc := 1) (i := 1) hC dX10_holes_1 rfl rfl (by decide) ?_
  refine aw_iconst (pc := 2) (v := 0) hC dX10_holes_2 ic0 ?_
  refine aw_istore_n (pc := 3) (i := 2) hC dX10_holes_3 rfl rfl (by decide) ?_
  have hL4 : ∀ (n : Nat) (x1 : Int32) (x2 : Int32), AW G C (qR G C 0 0 μ) 0 0 3 μ 4 [some (.ref (gad G 0 12)), some (.int x1), some (.int x2)] [] (lp_X10_holes_4 μ n x1 x2) := by
    intro n
    induction n with
    | zero => intro x1 x2; exact aw_none
    | succ n ih =>
      intro x1 x2
      rw [lp_X10_holes_4]
      refine aw_iload_n (pc := 4) (i := 2) hC dX10_holes_4 rfl rfl ?_
      refine aw_bipush (pc := 5) (v := 8) hC dX10_holes_5 bc8 ?_
      refine aw_icmp_ge (pc := 7) (tgt := 31) hC dX10_holes_7 (by decide) (fun _ => ?_) (fun _ => ?_)
      · skip
        refine aw_iload_n (pc := 31) (i := 1) hC dX10_holes_31 rfl rfl ?_
        exact aw_iretR hC dX10_holes_32
      · skip
        refine aw_iload_n (pc := 10) (i := 1) hC dX10_holes_10 rfl rfl ?_
        refine aw_aload_n (pc := 11) (i := 0) hC dX10_holes_11 rfl rfl ?_
        refine aw_get (pc := 12) hC inX10 (v0 (j := 12) (by decide)) rfl rfl 1 (by decide) kw1315 rfl rfl dX10_holes_12 ?_
        refine aw_bipush (pc := 15) (v := 16) hC dX10_holes_15 bc16 ?_
        refine aw_iload_n (pc := 17) (i := 2) hC dX10_holes_17 rfl rfl ?_
        refine aw_iadd (pc := 18) hC dX10_holes_18 ?_
        refine aw_iaload (pc := 19) hC (v0 (j := 13) (by decide)) rfl dX10_holes_19 ?_
        refine aw_callSR (pc := 20) (As := [.int (μ 0 13 (16 + x2).toNatClampNeg)]) hC ms_X10_bits kw1551 (by decide) (c_X10_bits G C.2.1   μ (μ 0 13 (16 + x2).toNatClampNeg)) rfl (Nat.le_of_ble_eq_true rfl) dX10_holes_20 (fun q3 => ?_)
        refine aw_iadd (pc := 23) hC dX10_holes_23 ?_
        refine aw_istore_n (pc := 24) (i := 1) hC dX10_holes_24 rfl rfl (by decide) ?_
        refine aw_iinc (pc := 25) (v := x2 + 1) hC dX10_holes_25 rfl (congrArg (HAdd.hAdd _) ic1) rfl (by decide) ?_
        refine aw_goto (pc := 28) (tgt := 4) hC dX10_holes_28 (by decide) ?_
        exact ih (x1 + q3) (x2 + 1)
  exact hL4 4096 0 0
theorem dX10_every_0 : decode cX10_every 0 = .ok (.aload_n 0, 1) := by decide +kernel
theorem dX10_every_1 : decode cX10_every 1 = .ok (.invokevirtual 206, 3) := by decide +kernel
theorem dX10_every_4 : decode cX10_every 4 = .ok (.istore_n 1, 1) := by decide +kernel
theorem dX10_every_5 : decode cX10_every 5 = .ok (.aload_n 0, 1) := by decide +kernel
theorem dX10_every_6 : decode cX10_every 6 = .ok (.getfield 25, 3) := by decide +kernel
theorem dX10_every_9 : decode cX10_every 9 = .ok (.iconst (-1), 1) := by decide +kernel
theorem dX10_every_10 : decode cX10_every 10 = .ok (.if_icmp .ne 34, 3) := by decide +kernel
theorem dX10_every_13 : decode cX10_every 13 = .ok (.aload_n 0, 1) := by decide +kernel
theorem dX10_every_14 : decode cX10_every 14 = .ok (.ldc 212, 2) := by decide +kernel
theorem dX10_every_16 : decode cX10_every 16 = .ok (.invokevirtual 96, 3) := by decide +kernel
theorem dX10_every_19 : decode cX10_every 19 = .ok (.ifCond .eq 25, 3) := by decide +kernel
theorem dX10_every_22 : decode cX10_every 22 = .ok (.aload_n 0, 1) := by decide +kernel
theorem dX10_every_23 : decode cX10_every 23 = .ok (.invokevirtual 206, 3) := by decide +kernel
theorem dX10_every_26 : decode cX10_every 26 = .ok (.istore_n 2, 1) := by decide +kernel
theorem dX10_every_27 : decode cX10_every 27 = .ok (.iload_n 1, 1) := by decide +kernel
theorem dX10_every_28 : decode cX10_every 28 = .ok (.ifCond .eq 11, 3) := by decide +kernel
theorem dX10_every_31 : decode cX10_every 31 = .ok (.iload_n 2, 1) := by decide +kernel
theorem dX10_every_32 : decode cX10_every 32 = .ok (.ifCond .eq 7, 3) := by decide +kernel
theorem dX10_every_35 : decode cX10_every 35 = .ok (.iconst 1, 1) := by decide +kernel
theorem dX10_every_36 : decode cX10_every 36 = .ok (.goto 4, 3) := by decide +kernel
theorem dX10_every_39 : decode cX10_every 39 = .ok (.iconst 0, 1) := by decide +kernel
theorem dX10_every_40 : decode cX10_every 40 = .ok (.istore_n 1, 1) := by decide +kernel
theorem dX10_every_41 : decode cX10_every 41 = .ok (.goto (-36), 3) := by decide +kernel
theorem dX10_every_44 : decode cX10_every 44 = .ok (.iload_n 1, 1) := by decide +kernel
theorem dX10_every_45 : decode cX10_every 45 = .ok (.ireturn, 1) := by decide +kernel
def lp_X10_every_5 (A : Mem → Option (Int32 × Mem)) : Nat → Int32 → Mem → Option (Int32 × Mem)
  | 0, _, _ => none
  | n + 1, x2, μ3 => if (μ3 0 12 12) = (-1) then ((f_X10_has 57 μ3).bind fun (q4 : Int32 × Mem) => if q4.1 = 0 then (bk x2 (some (x2, q4.2))) else ((A q4.2).bind fun (q5 : Int32 × Mem) => if x2 = 0 then (lp_X10_every_5 A n 0 q5.2) else (if q5.1 = 0 then (lp_X10_every_5 A n 0 q5.2) else (lp_X10_every_5 A n 1 q5.2)))) else (bk x2 (some (x2, μ3)))
def f_X10_every (A : Mem → Option (Int32 × Mem)) (μ : Mem) : Option (Int32 × Mem) := (A μ).bind fun (q1 : Int32 × Mem) => lp_X10_every_5 A 4096 q1.1 q1.2
set_option maxHeartbeats 4000000 in
set_option maxRecDepth 100000 in
theorem c_X10_every (G : GG) (l : Launch) (lv : Nat) (hlv : 12 ≤ lv) (A : Mem → Option (Int32 × Mem)) (hA : ∀ (μ : Mem), CI G l yX10_atom (.code yX10_atom cX10_atom 4 (some .boolean)) lv [.ref (gad G 0 12)] μ (A μ)) (μ : Mem) : CI G l yX10_every (.code yX10_every cX10_every 3 (some .boolean)) (lv + 1) [.ref (gad G 0 12)] μ (f_X10_every A μ) := by
  refine CI.of (own := "SaturdayKeepModel") (L0 := [some (.ref (gad G 0 12)), none, none]) rfl rfl rfl (Nat.le_of_ble_eq_true rfl) (fun C hl hC => ?_)
  subst hl
  delta f_X10_every
  refine aw_aload_n (pc := 0) (i := 0) hC dX10_every_0 rfl rfl ?_
  refine aw_callVI (pc := 1) (As := []) hC mb_X10_atom kw1454 (by omega) (hA μ) (v0 (j := 12) (by decide)) rfl rfl rfl (Nat.le_of_ble_eq_true rfl) dX10_every_1 (fun q1 => ?_)
  refine aw_istore_n (pc := 4) (i := 1) hC dX10_every_4 rfl rfl (by decide) ?_
  have hL5 : ∀ (n : Nat) (x2 : Int32) (μ3 : Mem), AW G C (qI G C 0 0) 0 0 3 μ3 5 [some (.ref (gad G 0 12)), some (.int x2), none] [] (lp_X10_every_5 A n x2 μ3) := by
    intro n
    induction n with
    | zero => intro x2 μ3; exact aw_none
    | succ n ih =>
      intro x2 μ3
      rw [lp_X10_every_5]
      refine aw_aload_n (pc := 5) (i := 0) hC dX10_every_5 rfl rfl ?_
      refine aw_get (pc := 6) hC inX10 (v0 (j := 12) (by decide)) rfl rfl 12 (by decide) kw1326 rfl rfl dX10_every_6 ?_
      refine aw_iconst (pc := 9) (v := (-1)) hC dX10_every_9 icm1 ?_
      refine aw_icmp_ne (pc := 10) (tgt := 44) hC dX10_every_10 (by decide) (fun _ => ?_) (fun _ => ?_)
      · skip
        refine aw_aload_n (pc := 13) (i := 0) hC dX10_every_13 rfl rfl ?_
        refine aw_ldcS (pc := 14) (i := 57) hC rfl dX10_every_14 ?_
        refine aw_callVI (pc := 16) (As := [.ref (gsK G 57)]) hC mb_X10_has kw1430 (by omega) (c_X10_has G C.2.1 57 (by decide) μ3 ) (v0 (j := 12) (by decide)) rfl rfl rfl (Nat.le_of_ble_eq_true rfl) dX10_every_16 (fun q4 => ?_)
        refine aw_if_eq (pc := 19) (tgt := 44) hC dX10_every_19 (by decide) (fun _ => ?_) (fun _ => ?_)
        · skip
          refine aw_iload_n (pc := 44) (i := 1) hC dX10_every_44 rfl rfl ?_
          exact aw_zret hC dX10_every_45
        · skip
          refine aw_aload_n (pc := 22) (i := 0) hC dX10_every_22 rfl rfl ?_
          refine aw_callVI (pc := 23) (As := []) hC mb_X10_atom kw1454 (by omega) (hA q4.2) (v0 (j := 12) (by decide)) rfl rfl rfl (Nat.le_of_ble_eq_true rfl) dX10_every_23 (fun q5 => ?_)
          refine aw_istore_n (pc := 26) (i := 2) hC dX10_every_26 rfl rfl (by decide) ?_
          refine aw_iload_n (pc := 27) (i := 1) hC dX10_every_27 rfl rfl ?_
          refine aw_if_eq (pc := 28) (tgt := 39) hC dX10_every_28 (by decide) (fun _ => ?_) (fun _ => ?_)
          · skip
            refine aw_iconst (pc := 39) (v := 0) hC dX10_every_39 ic0 ?_
            refine aw_istore_n (pc := 40) (i := 1) hC dX10_every_40 rfl rfl (by decide) ?_
            refine aw_goto (pc := 41) (tgt := 5) hC dX10_every_41 (by decide) ?_
            exact aw_drop [2] (ih 0 q5.2)
          · skip
            refine aw_iload_n (pc := 31) (i := 2) hC dX10_every_31 rfl rfl ?_
            refine aw_if_eq (pc := 32) (tgt := 39) hC dX10_every_32 (by decide) (fun _ => ?_) (fun _ => ?_)
            · skip
              refine aw_iconst (pc := 39) (v := 0) hC dX10_every_39 ic0 ?_
              refine aw_istore_n (pc := 40) (i := 1) hC dX10_every_40 rfl rfl (by decide) ?_
              refine aw_goto (pc := 41) (tgt := 5) hC dX10_every_41 (by decide) ?_
              exact aw_drop [2] (ih 0 q5.2)
            · skip
              refine aw_iconst (pc := 35) (v := 1) hC dX10_every_35 ic1 ?_
              refine aw_goto (pc := 36) (tgt := 40) hC dX10_every_36 (by decide) ?_
              refine aw_istore_n (pc := 40) (i := 1) hC dX10_every_40 rfl rfl (by decide) ?_
              refine aw_goto (pc := 41) (tgt := 5) hC dX10_every_41 (by decide) ?_
              exact aw_drop [2] (ih 1 q5.2)
      · skip
        refine aw_iload_n (pc := 44) (i := 1) hC dX10_every_44 rfl rfl ?_
        exact aw_zret hC dX10_every_45
  exact hL5 4096 q1.1 q1.2
theorem dX10_some_0 : decode cX10_some 0 = .ok (.aload_n 0, 1) := by decide +kernel
theorem dX10_some_1 : decode cX10_some 1 = .ok (.invokevirtual 214, 3) := by decide +kernel
theorem dX10_some_4 : decode cX10_some 4 = .ok (.istore_n 1, 1) := by decide +kernel
theorem dX10_some_5 : decode cX10_some 5 = .ok (.aload_n 0, 1) := by decide +kernel
theorem dX10_some_6 : decode cX10_some 6 = .ok (.getfield 25, 3) := by decide +kernel
theorem dX10_some_9 : decode cX10_some 9 = .ok (.iconst (-1), 1) := by decide +kernel
theorem dX10_some_10 : decode cX10_some 10 = .ok (.if_icmp .ne 34, 3) := by decide +kernel
theorem dX10_some_13 : decode cX10_some 13 = .ok (.aload_n 0, 1) := by decide +kernel
theorem dX10_some_14 : decode cX10_some 14 = .ok (.ldc 217, 2) := by decide +kernel
theorem dX10_some_16 : decode cX10_some 16 = .ok (.invokevirtual 96, 3) := by decide +kernel
theorem dX10_some_19 : decode cX10_some 19 = .ok (.ifCond .eq 25, 3) := by decide +kernel
theorem dX10_some_22 : decode cX10_some 22 = .ok (.aload_n 0, 1) := by decide +kernel
theorem dX10_some_23 : decode cX10_some 23 = .ok (.invokevirtual 214, 3) := by decide +kernel
theorem dX10_some_26 : decode cX10_some 26 = .ok (.istore_n 2, 1) := by decide +kernel
theorem dX10_some_27 : decode cX10_some 27 = .ok (.iload_n 1, 1) := by decide +kernel
theorem dX10_some_28 : decode cX10_some 28 = .ok (.ifCond .ne 7, 3) := by decide +kernel
theorem dX10_some_31 : decode cX10_some 31 = .ok (.iload_n 2, 1) := by decide +kernel
theorem dX10_some_32 : decode cX10_some 32 = .ok (.ifCond .eq 7, 3) := by decide +kernel
theorem dX10_some_35 : decode cX10_some 35 = .ok (.iconst 1, 1) := by decide +kernel
theorem dX10_some_36 : decode cX10_some 36 = .ok (.goto 4, 3) := by decide +kernel
theorem dX10_some_39 : decode cX10_some 39 = .ok (.iconst 0, 1) := by decide +kernel
theorem dX10_some_40 : decode cX10_some 40 = .ok (.istore_n 1, 1) := by decide +kernel
theorem dX10_some_41 : decode cX10_some 41 = .ok (.goto (-36), 3) := by decide +kernel
theorem dX10_some_44 : decode cX10_some 44 = .ok (.iload_n 1, 1) := by decide +kernel
theorem dX10_some_45 : decode cX10_some 45 = .ok (.ireturn, 1) := by decide +kernel
def lp_X10_some_5 (A : Mem → Option (Int32 × Mem)) : Nat → Int32 → Mem → Option (Int32 × Mem)
  | 0, _, _ => none
  | n + 1, x2, μ3 => if (μ3 0 12 12) = (-1) then ((f_X10_has 58 μ3).bind fun (q4 : Int32 × Mem) => if q4.1 = 0 then (bk x2 (some (x2, q4.2))) else ((f_X10_every A q4.2).bind fun (q5 : Int32 × Mem) => if x2 = 0 then (if q5.1 = 0 then (lp_X10_some_5 A n 0 q5.2) else (lp_X10_some_5 A n 1 q5.2)) else (lp_X10_some_5 A n 1 q5.2))) else (bk x2 (some (x2, μ3)))
def f_X10_some (A : Mem → Option (Int32 × Mem)) (μ : Mem) : Option (Int32 × Mem) := (f_X10_every A μ).bind fun (q1 : Int32 × Mem) => lp_X10_some_5 A 4096 q1.1 q1.2
set_option maxHeartbeats 4000000 in
set_option maxRecDepth 100000 in
theorem c_X10_some (G : GG) (l : Launch) (lv : Nat) (hlv : 12 ≤ lv) (A : Mem → Option (Int32 × Mem)) (hA : ∀ (μ : Mem), CI G l yX10_atom (.code yX10_atom cX10_atom 4 (some .boolean)) lv [.ref (gad G 0 12)] μ (A μ)) (μ : Mem) : CI G l yX10_some (.code yX10_some cX10_some 3 (some .boolean)) (lv + 2) [.ref (gad G 0 12)] μ (f_X10_some A μ) := by
  refine CI.of (own := "SaturdayKeepModel") (L0 := [some (.ref (gad G 0 12)), none, none]) rfl rfl rfl (Nat.le_of_ble_eq_true rfl) (fun C hl hC => ?_)
  subst hl
  delta f_X10_some
  refine aw_aload_n (pc := 0) (i := 0) hC dX10_some_0 rfl rfl ?_
  refine aw_callVI (pc := 1) (As := []) hC mb_X10_every kw1450 (by omega) (c_X10_every G C.2.1 lv hlv A hA μ) (v0 (j := 12) (by decide)) rfl rfl rfl (Nat.le_of_ble_eq_true rfl) dX10_some_1 (fun q1 => ?_)
  refine aw_istore_n (pc := 4) (i := 1) hC dX10_some_4 rfl rfl (by decide) ?_
  have hL5 : ∀ (n : Nat) (x2 : Int32) (μ3 : Mem), AW G C (qI G C 0 0) 0 0 3 μ3 5 [some (.ref (gad G 0 12)), some (.int x2), none] [] (lp_X10_some_5 A n x2 μ3) := by
    intro n
    induction n with
    | zero => intro x2 μ3; exact aw_none
    | succ n ih =>
      intro x2 μ3
      rw [lp_X10_some_5]
      refine aw_aload_n (pc := 5) (i := 0) hC dX10_some_5 rfl rfl ?_
      refine aw_get (pc := 6) hC inX10 (v0 (j := 12) (by decide)) rfl rfl 12 (by decide) kw1326 rfl rfl dX10_some_6 ?_
      refine aw_iconst (pc := 9) (v := (-1)) hC dX10_some_9 icm1 ?_
      refine aw_icmp_ne (pc := 10) (tgt := 44) hC dX10_some_10 (by decide) (fun _ => ?_) (fun _ => ?_)
      · skip
        refine aw_aload_n (pc := 13) (i := 0) hC dX10_some_13 rfl rfl ?_
        refine aw_ldcS (pc := 14) (i := 58) hC rfl dX10_some_14 ?_
        refine aw_callVI (pc := 16) (As := [.ref (gsK G 58)]) hC mb_X10_has kw1430 (by omega) (c_X10_has G C.2.1 58 (by decide) μ3 ) (v0 (j := 12) (by decide)) rfl rfl rfl (Nat.le_of_ble_eq_true rfl) dX10_some_16 (fun q4 => ?_)
        refine aw_if_eq (pc := 19) (tgt := 44) hC dX10_some_19 (by decide) (fun _ => ?_) (fun _ => ?_)
        · skip
          refine aw_iload_n (pc := 44) (i := 1) hC dX10_some_44 rfl rfl ?_
          exact aw_zret hC dX10_some_45
        · skip
          refine aw_aload_n (pc := 22) (i := 0) hC dX10_some_22 rfl rfl ?_
          refine aw_callVI (pc := 23) (As := []) hC mb_X10_every kw1450 (by omega) (c_X10_every G C.2.1 lv hlv A hA q4.2) (v0 (j := 12) (by decide)) rfl rfl rfl (Nat.le_of_ble_eq_true rfl) dX10_some_23 (fun q5 => ?_)
          refine aw_istore_n (pc := 26) (i := 2) hC dX10_some_26 rfl rfl (by decide) ?_
          refine aw_iload_n (pc := 27) (i := 1) hC dX10_some_27 rfl rfl ?_
          refine aw_if_ne (pc := 28) (tgt := 35) hC dX10_some_28 (by decide) (fun _ => ?_) (fun _ => ?_)
          · skip
            refine aw_iload_n (pc := 31) (i := 2) hC dX10_some_31 rfl rfl ?_
            refine aw_if_eq (pc := 32) (tgt := 39) hC dX10_some_32 (by decide) (fun _ => ?_) (fun _ => ?_)
            · skip
              refine aw_iconst (pc := 39) (v := 0) hC dX10_some_39 ic0 ?_
              refine aw_istore_n (pc := 40) (i := 1) hC dX10_some_40 rfl rfl (by decide) ?_
              refine aw_goto (pc := 41) (tgt := 5) hC dX10_some_41 (by decide) ?_
              exact aw_drop [2] (ih 0 q5.2)
            · skip
              refine aw_iconst (pc := 35) (v := 1) hC dX10_some_35 ic1 ?_
              refine aw_goto (pc := 36) (tgt := 40) hC dX10_some_36 (by decide) ?_
              refine aw_istore_n (pc := 40) (i := 1) hC dX10_some_40 rfl rfl (by decide) ?_
              refine aw_goto (pc := 41) (tgt := 5) hC dX10_some_41 (by decide) ?_
              exact aw_drop [2] (ih 1 q5.2)
          · skip
            refine aw_iconst (pc := 35) (v := 1) hC dX10_some_35 ic1 ?_
            refine aw_goto (pc := 36) (tgt := 40) hC dX10_some_36 (by decide) ?_
            refine aw_istore_n (pc := 40) (i := 1) hC dX10_some_40 rfl rfl (by decide) ?_
            refine aw_goto (pc := 41) (tgt := 5) hC dX10_some_41 (by decide) ?_
            exact aw_drop [2] (ih 1 q5.2)
      · skip
        refine aw_iload_n (pc := 44) (i := 1) hC dX10_some_44 rfl rfl ?_
        exact aw_zret hC dX10_some_45
  exact hL5 4096 q1.1 q1.2
theorem dX10_atom_0 : decode cX10_atom 0 = .ok (.aload_n 0, 1) := by decide +kernel
theorem dX10_atom_1 : decode cX10_atom 1 = .ok (.getfield 25, 3) := by decide +kernel
theorem dX10_atom_4 : decode cX10_atom 4 = .ok (.iconst (-1), 1) := by decide +kernel
theorem dX10_atom_5 : decode cX10_atom 5 = .ok (.if_icmp .eq 5, 3) := by decide +kernel
theorem dX10_atom_8 : decode cX10_atom 8 = .ok (.iconst 0, 1) := by decide +kernel
theorem dX10_atom_9 : decode cX10_atom 9 = .ok (.ireturn, 1) := by decide +kernel
theorem dX10_atom_10 : decode cX10_atom 10 = .ok (.aload_n 0, 1) := by decide +kernel
theorem dX10_atom_11 : decode cX10_atom 11 = .ok (.invokevirtual 89, 3) := by decide +kernel
theorem dX10_atom_14 : decode cX10_atom 14 = .ok (.istore_n 1, 1) := by decide +kernel
theorem dX10_atom_15 : decode cX10_atom 15 = .ok (.aload_n 0, 1) := by decide +kernel
theorem dX10_atom_16 : decode cX10_atom 16 = .ok (.ldc 200, 2) := by decide +kernel
theorem dX10_atom_18 : decode cX10_atom 18 = .ok (.invokevirtual 96, 3) := by decide +kernel
theorem dX10_atom_21 : decode cX10_atom 21 = .ok (.istore_n 2, 1) := by decide +kernel
theorem dX10_atom_22 : decode cX10_atom 22 = .ok (.iload_n 2, 1) := by decide +kernel
theorem dX10_atom_23 : decode cX10_atom 23 = .ok (.ifCond .ne 17, 3) := by decide +kernel
theorem dX10_atom_26 : decode cX10_atom 26 = .ok (.aload_n 0, 1) := by decide +kernel
theorem dX10_atom_27 : decode cX10_atom 27 = .ok (.bipush 40, 2) := by decide +kernel
theorem dX10_atom_29 : decode cX10_atom 29 = .ok (.invokevirtual 155, 3) := by decide +kernel
theorem dX10_atom_32 : decode cX10_atom 32 = .ok (.ifCond .ne 8, 3) := by decide +kernel
theorem dX10_atom_35 : decode cX10_atom 35 = .ok (.aload_n 0, 1) := by decide +kernel
theorem dX10_atom_36 : decode cX10_atom 36 = .ok (.invokevirtual 202, 3) := by decide +kernel
theorem dX10_atom_39 : decode cX10_atom 39 = .ok (.ireturn, 1) := by decide +kernel
theorem dX10_atom_40 : decode cX10_atom 40 = .ok (.aload_n 0, 1) := by decide +kernel
theorem dX10_atom_41 : decode cX10_atom 41 = .ok (.getfield 146, 3) := by decide +kernel
theorem dX10_atom_44 : decode cX10_atom 44 = .ok (.bipush 6, 2) := by decide +kernel
theorem dX10_atom_46 : decode cX10_atom 46 = .ok (.if_icmp .ne 10, 3) := by decide +kernel
theorem dX10_atom_49 : decode cX10_atom 49 = .ok (.aload_n 0, 1) := by decide +kernel
theorem dX10_atom_50 : decode cX10_atom 50 = .ok (.iload_n 1, 1) := by decide +kernel
theorem dX10_atom_51 : decode cX10_atom 51 = .ok (.invokevirtual 92, 3) := by decide +kernel
theorem dX10_atom_54 : decode cX10_atom 54 = .ok (.iconst 0, 1) := by decide +kernel
theorem dX10_atom_55 : decode cX10_atom 55 = .ok (.ireturn, 1) := by decide +kernel
theorem dX10_atom_56 : decode cX10_atom 56 = .ok (.aload_n 0, 1) := by decide +kernel
theorem dX10_atom_57 : decode cX10_atom 57 = .ok (.dup, 1) := by decide +kernel
theorem dX10_atom_58 : decode cX10_atom 58 = .ok (.getfield 146, 3) := by decide +kernel
theorem dX10_atom_61 : decode cX10_atom 61 = .ok (.iconst 1, 1) := by decide +kernel
theorem dX10_atom_62 : decode cX10_atom 62 = .ok (.iadd, 1) := by decide +kernel
theorem dX10_atom_63 : decode cX10_atom 63 = .ok (.putfield 146, 3) := by decide +kernel
theorem dX10_atom_66 : decode cX10_atom 66 = .ok (.iconst 0, 1) := by decide +kernel
theorem dX10_atom_67 : decode cX10_atom 67 = .ok (.istore_n 3, 1) := by decide +kernel
theorem dX10_atom_68 : decode cX10_atom 68 = .ok (.iload_n 2, 1) := by decide +kernel
theorem dX10_atom_69 : decode cX10_atom 69 = .ok (.ifCond .eq 19, 3) := by decide +kernel
theorem dX10_atom_72 : decode cX10_atom 72 = .ok (.aload_n 0, 1) := by decide +kernel
theorem dX10_atom_73 : decode cX10_atom 73 = .ok (.invokevirtual 206, 3) := by decide +kernel
theorem dX10_atom_76 : decode cX10_atom 76 = .ok (.ifCond .ne 7, 3) := by decide +kernel
theorem dX10_atom_79 : decode cX10_atom 79 = .ok (.iconst 1, 1) := by decide +kernel
theorem dX10_atom_80 : decode cX10_atom 80 = .ok (.goto 4, 3) := by decide +kernel
theorem dX10_atom_83 : decode cX10_atom 83 = .ok (.iconst 0, 1) := by decide +kernel
theorem dX10_atom_84 : decode cX10_atom 84 = .ok (.istore_n 3, 1) := by decide +kernel
theorem dX10_atom_85 : decode cX10_atom 85 = .ok (.goto 53, 3) := by decide +kernel
theorem dX10_atom_88 : decode cX10_atom 88 = .ok (.aload_n 0, 1) := by decide +kernel
theorem dX10_atom_89 : decode cX10_atom 89 = .ok (.dup, 1) := by decide +kernel
theorem dX10_atom_90 : decode cX10_atom 90 = .ok (.getfield 67, 3) := by decide +kernel
theorem dX10_atom_93 : decode cX10_atom 93 = .ok (.iconst 1, 1) := by decide +kernel
theorem dX10_atom_94 : decode cX10_atom 94 = .ok (.iadd, 1) := by decide +kernel
theorem dX10_atom_95 : decode cX10_atom 95 = .ok (.putfield 67, 3) := by decide +kernel
theorem dX10_atom_98 : decode cX10_atom 98 = .ok (.aload_n 0, 1) := by decide +kernel
theorem dX10_atom_99 : decode cX10_atom 99 = .ok (.invokevirtual 209, 3) := by decide +kernel
theorem dX10_atom_102 : decode cX10_atom 102 = .ok (.istore_n 3, 1) := by decide +kernel
theorem dX10_atom_103 : decode cX10_atom 103 = .ok (.aload_n 0, 1) := by decide +kernel
theorem dX10_atom_104 : decode cX10_atom 104 = .ok (.getfield 25, 3) := by decide +kernel
theorem dX10_atom_107 : decode cX10_atom 107 = .ok (.iconst (-1), 1) := by decide +kernel
theorem dX10_atom_108 : decode cX10_atom 108 = .ok (.if_icmp .ne 20, 3) := by decide +kernel
theorem dX10_atom_111 : decode cX10_atom 111 = .ok (.aload_n 0, 1) := by decide +kernel
theorem dX10_atom_112 : decode cX10_atom 112 = .ok (.bipush 41, 2) := by decide +kernel
theorem dX10_atom_114 : decode cX10_atom 114 = .ok (.invokevirtual 155, 3) := by decide +kernel
theorem dX10_atom_117 : decode cX10_atom 117 = .ok (.ifCond .ne 11, 3) := by decide +kernel
theorem dX10_atom_120 : decode cX10_atom 120 = .ok (.aload_n 0, 1) := by decide +kernel
theorem dX10_atom_121 : decode cX10_atom 121 = .ok (.aload_n 0, 1) := by decide +kernel
theorem dX10_atom_122 : decode cX10_atom 122 = .ok (.getfield 67, 3) := by decide +kernel
theorem dX10_atom_125 : decode cX10_atom 125 = .ok (.invokevirtual 92, 3) := by decide +kernel
theorem dX10_atom_128 : decode cX10_atom 128 = .ok (.aload_n 0, 1) := by decide +kernel
theorem dX10_atom_129 : decode cX10_atom 129 = .ok (.dup, 1) := by decide +kernel
theorem dX10_atom_130 : decode cX10_atom 130 = .ok (.getfield 67, 3) := by decide +kernel
theorem dX10_atom_133 : decode cX10_atom 133 = .ok (.iconst 1, 1) := by decide +kernel
theorem dX10_atom_134 : decode cX10_atom 134 = .ok (.iadd, 1) := by decide +kernel
theorem dX10_atom_135 : decode cX10_atom 135 = .ok (.putfield 67, 3) := by decide +kernel
theorem dX10_atom_138 : decode cX10_atom 138 = .ok (.aload_n 0, 1) := by decide +kernel
theorem dX10_atom_139 : decode cX10_atom 139 = .ok (.dup, 1) := by decide +kernel
theorem dX10_atom_140 : decode cX10_atom 140 = .ok (.getfield 146, 3) := by decide +kernel
theorem dX10_atom_143 : decode cX10_atom 143 = .ok (.iconst 1, 1) := by decide +kernel
theorem dX10_atom_144 : decode cX10_atom 144 = .ok (.isub, 1) := by decide +kernel
theorem dX10_atom_145 : decode cX10_atom 145 = .ok (.putfield 146, 3) := by decide +kernel
theorem dX10_atom_148 : decode cX10_atom 148 = .ok (.iload_n 3, 1) := by decide +kernel
theorem dX10_atom_149 : decode cX10_atom 149 = .ok (.ireturn, 1) := by decide +kernel
def f_X10_atomS (A : Mem → Option (Int32 × Mem)) (μ : Mem) : Option (Int32 × Mem) := if (μ 0 12 12) = (-1) then ((f_X10_place μ).bind fun (q1 : Int32 × Mem) => (f_X10_has 47 q1.2).bind fun (q2 : Int32 × Mem) => nm (fun (μ3 : Mem) => if (μ3 0 12 13) = 6 then ((f_X10_wrong μ3 q1.1).bind fun (q4 : Mem) => some (0, q4)) else (nm (upm μ3 0 12 13 ((μ3 0 12 13) + 1)) fun (μ5 : Mem) => nm (fun (x6 : Int32) (μ7 : Mem) => nm (upm μ7 0 12 13 ((μ7 0 12 13) - 1)) fun (μ8 : Mem) => bk x6 (some (x6, μ8))) fun (J138 : Int32 → Mem → Option (Int32 × Mem)) => if q2.1 = 0 then (nm (upm μ5 0 12 11 ((μ5 0 12 11) + 1)) fun (μ9 : Mem) => (f_X10_some A μ9).bind fun (q10 : Int32 × Mem) => nm (fun (μ11 : Mem) => nm (upm μ11 0 12 11 ((μ11 0 12 11) + 1)) fun (μ12 : Mem) => J138 q10.1 μ12) fun (J128 : Mem → Option (Int32 × Mem)) => if (q10.2 0 12 12) = (-1) then ((f_X10_isSign q10.2 41).bind fun (q13 : Int32 × Mem) => if q13.1 = 0 then ((f_X10_wrong q13.2 (q13.2 0 12 11)).bind fun (q14 : Mem) => J128 q14) else (J128 q13.2)) else (J128 q10.2)) else ((A μ5).bind fun (q15 : Int32 × Mem) => if q15.1 = 0 then (J138 1 q15.2) else (J138 0 q15.2)))) fun (J40 : Mem → Option (Int32 × Mem)) => if q2.1 = 0 then ((f_X10_isSign q2.2 40).bind fun (q16 : Int32 × Mem) => if q16.1 = 0 then ((f_X10_plain q16.2).bind fun (q17 : Int32 × Mem) => bk q17.1 (some (q17.1, q17.2))) else (J40 q16.2)) else (J40 q2.2)) else (some (0, μ))
set_option maxHeartbeats 4000000 in
set_option maxRecDepth 100000 in
theorem c_X10_atomS (G : GG) (l : Launch) (lv : Nat) (hlv : 12 ≤ lv) (A : Mem → Option (Int32 × Mem)) (hA : ∀ (μ : Mem), CI G l yX10_atom (.code yX10_atom cX10_atom 4 (some .boolean)) lv [.ref (gad G 0 12)] μ (A μ)) (μ : Mem) : CI G l yX10_atom (.code yX10_atom cX10_atom 4 (some .boolean)) (lv + 4) [.ref (gad G 0 12)] μ (f_X10_atomS A μ) := by
  refine CI.of (own := "SaturdayKeepModel") (L0 := [some (.ref (gad G 0 12)), none, none, none]) rfl rfl rfl (Nat.le_of_ble_eq_true rfl) (fun C hl hC => ?_)
  subst hl
  delta f_X10_atomS
  refine aw_aload_n (pc := 0) (i := 0) hC dX10_atom_0 rfl rfl ?_
  refine aw_get (pc := 1) hC inX10 (v0 (j := 12) (by decide)) rfl rfl 12 (by decide) kw1326 rfl rfl dX10_atom_1 ?_
  refine aw_iconst (pc := 4) (v := (-1)) hC dX10_atom_4 icm1 ?_
  refine aw_icmp_eq (pc := 5) (tgt := 10) hC dX10_atom_5 (by decide) (fun _ => ?_) (fun _ => ?_)
  · skip
    refine aw_aload_n (pc := 10) (i := 0) hC dX10_atom_10 rfl rfl ?_
    refine aw_callVI (pc := 11) (As := []) hC mb_X10_place kw1441 (by omega) (c_X10_place G C.2.1   μ ) (v0 (j := 12) (by decide)) rfl rfl rfl (Nat.le_of_ble_eq_true rfl) dX10_atom_11 (fun q1 => ?_)
    refine aw_istore_n (pc := 14) (i := 1) hC dX10_atom_14 rfl rfl (by decide) ?_
    refine aw_aload_n (pc := 15) (i := 0) hC dX10_atom_15 rfl rfl ?_
    refine aw_ldcS (pc := 16) (i := 47) hC rfl dX10_atom_16 ?_
    refine aw_callVI (pc := 18) (As := [.ref (gsK G 47)]) hC mb_X10_has kw1430 (by omega) (c_X10_has G C.2.1 47 (by decide) q1.2 ) (v0 (j := 12) (by decide)) rfl rfl rfl (Nat.le_of_ble_eq_true rfl) dX10_atom_18 (fun q2 => ?_)
    refine aw_istore_n (pc := 21) (i := 2) hC dX10_atom_21 rfl rfl (by decide) ?_
    refine aw_iload_n (pc := 22) (i := 2) hC dX10_atom_22 rfl rfl ?_
    refine aw_nmJ (fun (J40 : Mem → Option (Int32 × Mem)) => ∀ (μ3 : Mem), AW G C (qI G C 0 0) 0 0 4 μ3 40 [some (.ref (gad G 0 12)), some (.int q1.1), some (.int q2.1), none] [] (J40 μ3)) (fun μ3 => ?_) (fun J40 hJ40 => ?_)
    · skip
      refine aw_aload_n (pc := 40) (i := 0) hC dX10_atom_40 rfl rfl ?_
      refine aw_get (pc := 41) hC inX10 (v0 (j := 12) (by decide)) rfl rfl 13 (by decide) kw1327 rfl rfl dX10_atom_41 ?_
      refine aw_bipush (pc := 44) (v := 6) hC dX10_atom_44 bc6 ?_
      refine aw_icmp_ne (pc := 46) (tgt := 56) hC dX10_atom_46 (by decide) (fun _ => ?_) (fun _ => ?_)
      · skip
        refine aw_aload_n (pc := 49) (i := 0) hC dX10_atom_49 rfl rfl ?_
        refine aw_iload_n (pc := 50) (i := 1) hC dX10_atom_50 rfl rfl ?_
        refine aw_callVV (pc := 51) (As := [.int q1.1]) hC mb_X10_wrong kw1421 (by omega) (c_X10_wrong G C.2.1   μ3 q1.1) (v0 (j := 12) (by decide)) rfl rfl rfl (Nat.le_of_ble_eq_true rfl) dX10_atom_51 (fun q4 => ?_)
        refine aw_iconst (pc := 54) (v := 0) hC dX10_atom_54 ic0 ?_
        exact aw_zret0 hC dX10_atom_55
      · skip
        refine aw_aload_n (pc := 56) (i := 0) hC dX10_atom_56 rfl rfl ?_
        refine aw_dup (pc := 57) hC dX10_atom_57 rfl ?_
        refine aw_get (pc := 58) hC inX10 (v0 (j := 12) (by decide)) rfl rfl 13 (by decide) kw1327 rfl rfl dX10_atom_58 ?_
        refine aw_iconst (pc := 61) (v := 1) hC dX10_atom_61 ic1 ?_
        refine aw_iadd (pc := 62) hC dX10_atom_62 ?_
        refine aw_putIN (pc := 63) hC inX10 (v0 (j := 12) (by decide)) rfl rfl 13 (by decide) kw1327 rfl tyX10 tyX10_ok nmX10 rfl rfl (Nat.le_of_ble_eq_true rfl) rfl dX10_atom_63 (fun μ5 => ?_)
        refine aw_iconst (pc := 66) (v := 0) hC dX10_atom_66 ic0 ?_
        refine aw_istore_n (pc := 67) (i := 3) hC dX10_atom_67 rfl rfl (by decide) ?_
        refine aw_iload_n (pc := 68) (i := 2) hC dX10_atom_68 rfl rfl ?_
        refine aw_nmJ (fun (J138 : Int32 → Mem → Option (Int32 × Mem)) => ∀ (x6 : Int32) (μ7 : Mem), AW G C (qI G C 0 0) 0 0 4 μ7 138 [some (.ref (gad G 0 12)), none, none, some (.int x6)] [] (J138 x6 μ7)) (fun x6 μ7 => ?_) (fun J138 hJ138 => ?_)
        · skip
          refine aw_aload_n (pc := 138) (i := 0) hC dX10_atom_138 rfl rfl ?_
          refine aw_dup (pc := 139) hC dX10_atom_139 rfl ?_
          refine aw_get (pc := 140) hC inX10 (v0 (j := 12) (by decide)) rfl rfl 13 (by decide) kw1327 rfl rfl dX10_atom_140 ?_
          refine aw_iconst (pc := 143) (v := 1) hC dX10_atom_143 ic1 ?_
          refine aw_isub (pc := 144) hC dX10_atom_144 ?_
          refine aw_putIN (pc := 145) hC inX10 (v0 (j := 12) (by decide)) rfl rfl 13 (by decide) kw1327 rfl tyX10 tyX10_ok nmX10 rfl rfl (Nat.le_of_ble_eq_true rfl) rfl dX10_atom_145 (fun μ8 => ?_)
          refine aw_iload_n (pc := 148) (i := 3) hC dX10_atom_148 rfl rfl ?_
          exact aw_zret hC dX10_atom_149
        · skip
          refine aw_if_eq (pc := 69) (tgt := 88) hC dX10_atom_69 (by decide) (fun _ => ?_) (fun _ => ?_)
          · skip
            refine aw_aload_n (pc := 88) (i := 0) hC dX10_atom_88 rfl rfl ?_
            refine aw_dup (pc := 89) hC dX10_atom_89 rfl ?_
            refine aw_get (pc := 90) hC inX10 (v0 (j := 12) (by decide)) rfl rfl 11 (by decide) kw1325 rfl rfl dX10_atom_90 ?_
            refine aw_iconst (pc := 93) (v := 1) hC dX10_atom_93 ic1 ?_
            refine aw_iadd (pc := 94) hC dX10_atom_94 ?_
            refine aw_putIN (pc := 95) hC inX10 (v0 (j := 12) (by decide)) rfl rfl 11 (by decide) kw1325 rfl tyX10 tyX10_ok nmX10 rfl rfl (Nat.le_of_ble_eq_true rfl) rfl dX10_atom_95 (fun μ9 => ?_)
            refine aw_aload_n (pc := 98) (i := 0) hC dX10_atom_98 rfl rfl ?_
            refine aw_callVI (pc := 99) (As := []) hC mb_X10_some kw1446 (by omega) (c_X10_some G C.2.1 lv hlv A hA μ9) (v0 (j := 12) (by decide)) rfl rfl rfl (Nat.le_of_ble_eq_true rfl) dX10_atom_99 (fun q10 => ?_)
            refine aw_istore_n (pc := 102) (i := 3) hC dX10_atom_102 rfl rfl (by decide) ?_
            refine aw_aload_n (pc := 103) (i := 0) hC dX10_atom_103 rfl rfl ?_
            refine aw_get (pc := 104) hC inX10 (v0 (j := 12) (by decide)) rfl rfl 12 (by decide) kw1326 rfl rfl dX10_atom_104 ?_
            refine aw_iconst (pc := 107) (v := (-1)) hC dX10_atom_107 icm1 ?_
            refine aw_nmJ (fun (J128 : Mem → Option (Int32 × Mem)) => ∀ (μ11 : Mem), AW G C (qI G C 0 0) 0 0 4 μ11 128 [some (.ref (gad G 0 12)), none, none, some (.int q10.1)] [] (J128 μ11)) (fun μ11 => ?_) (fun J128 hJ128 => ?_)
            · skip
              refine aw_aload_n (pc := 128) (i := 0) hC dX10_atom_128 rfl rfl ?_
              refine aw_dup (pc := 129) hC dX10_atom_129 rfl ?_
              refine aw_get (pc := 130) hC inX10 (v0 (j := 12) (by decide)) rfl rfl 11 (by decide) kw1325 rfl rfl dX10_atom_130 ?_
              refine aw_iconst (pc := 133) (v := 1) hC dX10_atom_133 ic1 ?_
              refine aw_iadd (pc := 134) hC dX10_atom_134 ?_
              refine aw_putIN (pc := 135) hC inX10 (v0 (j := 12) (by decide)) rfl rfl 11 (by decide) kw1325 rfl tyX10 tyX10_ok nmX10 rfl rfl (Nat.le_of_ble_eq_true rfl) rfl dX10_atom_135 (fun μ12 => ?_)
              exact hJ138 q10.1 μ12
            · skip
              refine aw_icmp_ne (pc := 108) (tgt := 128) hC dX10_atom_108 (by decide) (fun _ => ?_) (fun _ => ?_)
              · skip
                refine aw_aload_n (pc := 111) (i := 0) hC dX10_atom_111 rfl rfl ?_
                refine aw_bipush (pc := 112) (v := 41) hC dX10_atom_112 bc41 ?_
                refine aw_callVI (pc := 114) (As := [.int 41]) hC mb_X10_isSign kw1459 (by omega) (c_X10_isSign G C.2.1   q10.2 41) (v0 (j := 12) (by decide)) rfl rfl rfl (Nat.le_of_ble_eq_true rfl) dX10_atom_114 (fun q13 => ?_)
                refine aw_if_ne (pc := 117) (tgt := 128) hC dX10_atom_117 (by decide) (fun _ => ?_) (fun _ => ?_)
                · skip
                  refine aw_aload_n (pc := 120) (i := 0) hC dX10_atom_120 rfl rfl ?_
                  refine aw_aload_n (pc := 121) (i := 0) hC dX10_atom_121 rfl rfl ?_
                  refine aw_get (pc := 122) hC inX10 (v0 (j := 12) (by decide)) rfl rfl 11 (by decide) kw1325 rfl rfl dX10_atom_122 ?_
                  refine aw_callVV (pc := 125) (As := [.int (q13.2 0 12 11)]) hC mb_X10_wrong kw1421 (by omega) (c_X10_wrong G C.2.1   q13.2 (q13.2 0 12 11)) (v0 (j := 12) (by decide)) rfl rfl rfl (Nat.le_of_ble_eq_true rfl) dX10_atom_125 (fun q14 => ?_)
                  exact aw_drop [1, 2] (hJ128 q14)
                · skip
                  exact aw_drop [1, 2] (hJ128 q13.2)
              · skip
                exact aw_drop [1, 2] (hJ128 q10.2)
          · skip
            refine aw_aload_n (pc := 72) (i := 0) hC dX10_atom_72 rfl rfl ?_
            refine aw_callVI (pc := 73) (As := []) hC mb_X10_atom kw1454 (by omega) (hA μ5) (v0 (j := 12) (by decide)) rfl rfl rfl (Nat.le_of_ble_eq_true rfl) dX10_atom_73 (fun q15 => ?_)
            refine aw_if_ne (pc := 76) (tgt := 83) hC dX10_atom_76 (by decide) (fun _ => ?_) (fun _ => ?_)
            · skip
              refine aw_iconst (pc := 79) (v := 1) hC dX10_atom_79 ic1 ?_
              refine aw_goto (pc := 80) (tgt := 84) hC dX10_atom_80 (by decide) ?_
              refine aw_istore_n (pc := 84) (i := 3) hC dX10_atom_84 rfl rfl (by decide) ?_
              refine aw_goto (pc := 85) (tgt := 138) hC dX10_atom_85 (by decide) ?_
              exact aw_drop [1, 2] (hJ138 1 q15.2)
            · skip
              refine aw_iconst (pc := 83) (v := 0) hC dX10_atom_83 ic0 ?_
              refine aw_istore_n (pc := 84) (i := 3) hC dX10_atom_84 rfl rfl (by decide) ?_
              refine aw_goto (pc := 85) (tgt := 138) hC dX10_atom_85 (by decide) ?_
              exact aw_drop [1, 2] (hJ138 0 q15.2)
    · skip
      refine aw_if_ne (pc := 23) (tgt := 40) hC dX10_atom_23 (by decide) (fun _ => ?_) (fun _ => ?_)
      · skip
        refine aw_aload_n (pc := 26) (i := 0) hC dX10_atom_26 rfl rfl ?_
        refine aw_bipush (pc := 27) (v := 40) hC dX10_atom_27 bc40 ?_
        refine aw_callVI (pc := 29) (As := [.int 40]) hC mb_X10_isSign kw1459 (by omega) (c_X10_isSign G C.2.1   q2.2 40) (v0 (j := 12) (by decide)) rfl rfl rfl (Nat.le_of_ble_eq_true rfl) dX10_atom_29 (fun q16 => ?_)
        refine aw_if_ne (pc := 32) (tgt := 40) hC dX10_atom_32 (by decide) (fun _ => ?_) (fun _ => ?_)
        · skip
          refine aw_aload_n (pc := 35) (i := 0) hC dX10_atom_35 rfl rfl ?_
          refine aw_callVI (pc := 36) (As := []) hC mb_X10_plain kw1463 (by omega) (c_X10_plain G C.2.1   q16.2 ) (v0 (j := 12) (by decide)) rfl rfl rfl (Nat.le_of_ble_eq_true rfl) dX10_atom_36 (fun q17 => ?_)
          exact aw_zret hC dX10_atom_39
        · skip
          exact hJ40 q16.2
      · skip
        exact hJ40 q2.2
  · skip
    refine aw_iconst (pc := 8) (v := 0) hC dX10_atom_8 ic0 ?_
    exact aw_zret0 hC dX10_atom_9
def f_X10_atom : Nat → Mem → Option (Int32 × Mem)
  | 0, _ => none
  | d + 1, μ => f_X10_atomS (f_X10_atom d) μ
theorem c_X10_atom (G : GG) (l : Launch) : ∀ (d : Nat) (μ : Mem), CI G l yX10_atom (.code yX10_atom cX10_atom 4 (some .boolean)) (12 + 4 * d) [.ref (gad G 0 12)] μ (f_X10_atom d μ) := by
  intro d
  induction d with
  | zero => intro μ x hx; cases hx
  | succ d ih =>
    intro μ
    have h := c_X10_atomS G l (12 + 4 * d) (by omega) (f_X10_atom d) ih μ
    rw [show 12 + 4 * (d + 1) = 12 + 4 * d + 4 by omega]
    exact h
