theorem dX9_feed_0 : decode cX9_feed 0 = .ok (.aload_n 0, 1) := by decide +kernel
theorem dX9_feed_1 : decode cX9_feed 1 = .ok (.getfield 10, 3) := by decide +kernel
theorem dX9_feed_4 : decode cX9_feed 4 = .ok (.getfield 71, 3) := by decide +kernel
theorem dX9_feed_7 : decode cX9_feed 7 = .ok (.bipush 20, 2) := by decide +kernel
theorem dX9_feed_9 : decode cX9_feed 9 = .ok (.iadd, 1) := by decide +kernel
theorem dX9_feed_10 : decode cX9_feed 10 = .ok (.sipush 400, 3) := by decide +kernel
theorem dX9_feed_13 : decode cX9_feed 13 = .ok (.if_icmp .le 5, 3) := by decide +kernel
theorem dX9_feed_16 : decode cX9_feed 16 = .ok (.iconst (-1), 1) := by decide +kernel
theorem dX9_feed_17 : decode cX9_feed 17 = .ok (.ireturn, 1) := by decide +kernel
theorem dX9_feed_18 : decode cX9_feed 18 = .ok (.aload_n 0, 1) := by decide +kernel
theorem dX9_feed_19 : decode cX9_feed 19 = .ok (.getfield 10, 3) := by decide +kernel
theorem dX9_feed_22 : decode cX9_feed 22 = .ok (.iload_n 1, 1) := by decide +kernel
theorem dX9_feed_23 : decode cX9_feed 23 = .ok (.invokevirtual 74, 3) := by decide +kernel
theorem dX9_feed_26 : decode cX9_feed 26 = .ok (.aload_n 0, 1) := by decide +kernel
theorem dX9_feed_27 : decode cX9_feed 27 = .ok (.getfield 10, 3) := by decide +kernel
theorem dX9_feed_30 : decode cX9_feed 30 = .ok (.iload_n 2, 1) := by decide +kernel
theorem dX9_feed_31 : decode cX9_feed 31 = .ok (.invokevirtual 74, 3) := by decide +kernel
theorem dX9_feed_34 : decode cX9_feed 34 = .ok (.aload_n 0, 1) := by decide +kernel
theorem dX9_feed_35 : decode cX9_feed 35 = .ok (.getfield 10, 3) := by decide +kernel
theorem dX9_feed_38 : decode cX9_feed 38 = .ok (.iload_n 3, 1) := by decide +kernel
theorem dX9_feed_39 : decode cX9_feed 39 = .ok (.invokevirtual 74, 3) := by decide +kernel
theorem dX9_feed_42 : decode cX9_feed 42 = .ok (.aload_n 0, 1) := by decide +kernel
theorem dX9_feed_43 : decode cX9_feed 43 = .ok (.getfield 10, 3) := by decide +kernel
theorem dX9_feed_46 : decode cX9_feed 46 = .ok (.iload 4, 2) := by decide +kernel
theorem dX9_feed_48 : decode cX9_feed 48 = .ok (.invokevirtual 74, 3) := by decide +kernel
theorem dX9_feed_51 : decode cX9_feed 51 = .ok (.aload_n 0, 1) := by decide +kernel
theorem dX9_feed_52 : decode cX9_feed 52 = .ok (.getfield 10, 3) := by decide +kernel
theorem dX9_feed_55 : decode cX9_feed 55 = .ok (.iload 5, 2) := by decide +kernel
theorem dX9_feed_57 : decode cX9_feed 57 = .ok (.invokevirtual 74, 3) := by decide +kernel
theorem dX9_feed_60 : decode cX9_feed 60 = .ok (.aload_n 0, 1) := by decide +kernel
theorem dX9_feed_61 : decode cX9_feed 61 = .ok (.getfield 10, 3) := by decide +kernel
theorem dX9_feed_64 : decode cX9_feed 64 = .ok (.getfield 71, 3) := by decide +kernel
theorem dX9_feed_67 : decode cX9_feed 67 = .ok (.ireturn, 1) := by decide +kernel
def f_X9_feed (μ : Mem) (a1 : Int32) (a2 : Int32) (a3 : Int32) (a4 : Int32) (a5 : Int32) : Option (Int32 × Mem) := if ((μ 0 1 1) + 20) ≤ 400 then ((f_X7_putNumber μ a1).bind fun (q1 : Mem) => (f_X7_putNumber q1 a2).bind fun (q2 : Mem) => (f_X7_putNumber q2 a3).bind fun (q3 : Mem) => (f_X7_putNumber q3 a4).bind fun (q4 : Mem) => (f_X7_putNumber q4 a5).bind fun (q5 : Mem) => some ((q5 0 1 1), q5)) else (some ((-1), μ))
set_option maxHeartbeats 4000000 in
set_option maxRecDepth 100000 in
theorem c_X9_feed (G : GG) (l : Launch) (μ : Mem) (a1 : Int32) (a2 : Int32) (a3 : Int32) (a4 : Int32) (a5 : Int32) : CI G l yX9_feed (.code yX9_feed cX9_feed 6 (some .int)) 2 [.ref (gad G 0 0), .int a1, .int a2, .int a3, .int a4, .int a5] μ (f_X9_feed μ a1 a2 a3 a4 a5) := by
  refine CI.of (own := "SaturdayKeep") (L0 := [some (.ref (gad G 0 0)), some (.int a1), some (.int a2), some (.int a3), some (.int a4), some (.int a5)]) rfl rfl rfl (Nat.le_of_ble_eq_true rfl) (fun C hl hC => ?_)
  subst hl
  delta f_X9_feed
  refine aw_aload_n (pc := 0) (i := 0) hC dX9_feed_0 rfl rfl ?_
  refine aw_get (pc := 1) hC inX9 (v0 (j := 0) (by decide)) rfl rfl 0 (by decide) kw276 rfl rfl dX9_feed_1 ?_
  refine aw_get (pc := 4) hC inX7 (v0 (j := 1) (by decide)) rfl rfl 1 (by decide) kw42 rfl rfl dX9_feed_4 ?_
  refine aw_bipush (pc := 7) (v := 20) hC dX9_feed_7 bc20 ?_
  refine aw_iadd (pc := 9) hC dX9_feed_9 ?_
  refine aw_sipush (pc := 10) (v := 400) hC dX9_feed_10 sc400 ?_
  refine aw_icmp_le (pc := 13) (tgt := 18) hC dX9_feed_13 (by decide) (fun _ => ?_) (fun _ => ?_)
  · skip
    refine aw_aload_n (pc := 18) (i := 0) hC dX9_feed_18 rfl rfl ?_
    refine aw_get (pc := 19) hC inX9 (v0 (j := 0) (by decide)) rfl rfl 0 (by decide) kw276 rfl rfl dX9_feed_19 ?_
    refine aw_iload_n (pc := 22) (i := 1) hC dX9_feed_22 rfl rfl ?_
    refine aw_callVV (pc := 23) (As := [.int a1]) hC mb_X7_putNumber kw314 (by decide) (c_X7_putNumber G C.2.1   μ a1) (v0 (j := 1) (by decide)) rfl rfl rfl (Nat.le_of_ble_eq_true rfl) dX9_feed_23 (fun q1 => ?_)
    refine aw_aload_n (pc := 26) (i := 0) hC dX9_feed_26 rfl rfl ?_
    refine aw_get (pc := 27) hC inX9 (v0 (j := 0) (by decide)) rfl rfl 0 (by decide) kw276 rfl rfl dX9_feed_27 ?_
    refine aw_iload_n (pc := 30) (i := 2) hC dX9_feed_30 rfl rfl ?_
    refine aw_callVV (pc := 31) (As := [.int a2]) hC mb_X7_putNumber kw314 (by decide) (c_X7_putNumber G C.2.1   q1 a2) (v0 (j := 1) (by decide)) rfl rfl rfl (Nat.le_of_ble_eq_true rfl) dX9_feed_31 (fun q2 => ?_)
    refine aw_aload_n (pc := 34) (i := 0) hC dX9_feed_34 rfl rfl ?_
    refine aw_get (pc := 35) hC inX9 (v0 (j := 0) (by decide)) rfl rfl 0 (by decide) kw276 rfl rfl dX9_feed_35 ?_
    refine aw_iload_n (pc := 38) (i := 3) hC dX9_feed_38 rfl rfl ?_
    refine aw_callVV (pc := 39) (As := [.int a3]) hC mb_X7_putNumber kw314 (by decide) (c_X7_putNumber G C.2.1   q2 a3) (v0 (j := 1) (by decide)) rfl rfl rfl (Nat.le_of_ble_eq_true rfl) dX9_feed_39 (fun q3 => ?_)
    refine aw_aload_n (pc := 42) (i := 0) hC dX9_feed_42 rfl rfl ?_
    refine aw_get (pc := 43) hC inX9 (v0 (j := 0) (by decide)) rfl rfl 0 (by decide) kw276 rfl rfl dX9_feed_43 ?_
    refine aw_iload (pc := 46) hC dX9_feed_46 rfl ?_
    refine aw_callVV (pc := 48) (As := [.int a4]) hC mb_X7_putNumber kw314 (by decide) (c_X7_putNumber G C.2.1   q3 a4) (v0 (j := 1) (by decide)) rfl rfl rfl (Nat.le_of_ble_eq_true rfl) dX9_feed_48 (fun q4 => ?_)
    refine aw_aload_n (pc := 51) (i := 0) hC dX9_feed_51 rfl rfl ?_
    refine aw_get (pc := 52) hC inX9 (v0 (j := 0) (by decide)) rfl rfl 0 (by decide) kw276 rfl rfl dX9_feed_52 ?_
    refine aw_iload (pc := 55) hC dX9_feed_55 rfl ?_
    refine aw_callVV (pc := 57) (As := [.int a5]) hC mb_X7_putNumber kw314 (by decide) (c_X7_putNumber G C.2.1   q4 a5) (v0 (j := 1) (by decide)) rfl rfl rfl (Nat.le_of_ble_eq_true rfl) dX9_feed_57 (fun q5 => ?_)
    refine aw_aload_n (pc := 60) (i := 0) hC dX9_feed_60 rfl rfl ?_
    refine aw_get (pc := 61) hC inX9 (v0 (j := 0) (by decide)) rfl rfl 0 (by decide) kw276 rfl rfl dX9_feed_61 ?_
    refine aw_get (pc := 64) hC inX7 (v0 (j := 1) (by decide)) rfl rfl 1 (by decide) kw42 rfl rfl dX9_feed_64 ?_
    exact aw_iret hC dX9_feed_67
  · skip
    refine aw_iconst (pc := 16) (v := (-1)) hC dX9_feed_16 icm1 ?_
    exact aw_iret hC dX9_feed_17
theorem dX9_end_0 : decode cX9_end 0 = .ok (.iload_n 1, 1) := by decide +kernel
theorem dX9_end_1 : decode cX9_end 1 = .ok (.ifCond .lt 14, 3) := by decide +kernel
theorem dX9_end_4 : decode cX9_end 4 = .ok (.iload_n 1, 1) := by decide +kernel
theorem dX9_end_5 : decode cX9_end 5 = .ok (.aload_n 0, 1) := by decide +kernel
theorem dX9_end_6 : decode cX9_end 6 = .ok (.getfield 10, 3) := by decide +kernel
theorem dX9_end_9 : decode cX9_end 9 = .ok (.getfield 71, 3) := by decide +kernel
theorem dX9_end_12 : decode cX9_end 12 = .ok (.if_icmp .le 5, 3) := by decide +kernel
theorem dX9_end_15 : decode cX9_end 15 = .ok (.iconst 0, 1) := by decide +kernel
theorem dX9_end_16 : decode cX9_end 16 = .ok (.ireturn, 1) := by decide +kernel
theorem dX9_end_17 : decode cX9_end 17 = .ok (.aload_n 0, 1) := by decide +kernel
theorem dX9_end_18 : decode cX9_end 18 = .ok (.getfield 10, 3) := by decide +kernel
theorem dX9_end_21 : decode cX9_end 21 = .ok (.iload_n 1, 1) := by decide +kernel
theorem dX9_end_22 : decode cX9_end 22 = .ok (.putfield 71, 3) := by decide +kernel
theorem dX9_end_25 : decode cX9_end 25 = .ok (.iconst 1, 1) := by decide +kernel
theorem dX9_end_26 : decode cX9_end 26 = .ok (.ireturn, 1) := by decide +kernel
def f_X9_end (μ : Mem) (a1 : Int32) : Option (Int32 × Mem) := if a1 < 0 then (some (0, μ)) else (if a1 ≤ (μ 0 1 1) then (nm (upm μ 0 1 1 a1) fun (μ1 : Mem) => some (1, μ1)) else (some (0, μ)))
set_option maxHeartbeats 4000000 in
set_option maxRecDepth 100000 in
theorem c_X9_end (G : GG) (l : Launch) (μ : Mem) (a1 : Int32) : CI G l yX9_end (.code yX9_end cX9_end 2 (some .boolean)) 1 [.ref (gad G 0 0), .int a1] μ (f_X9_end μ a1) := by
  refine CI.of (own := "SaturdayKeep") (L0 := [some (.ref (gad G 0 0)), some (.int a1)]) rfl rfl rfl (Nat.le_of_ble_eq_true rfl) (fun C hl hC => ?_)
  subst hl
  delta f_X9_end
  refine aw_iload_n (pc := 0) (i := 1) hC dX9_end_0 rfl rfl ?_
  refine aw_if_lt (pc := 1) (tgt := 15) hC dX9_end_1 (by decide) (fun _ => ?_) (fun _ => ?_)
  · skip
    refine aw_iconst (pc := 15) (v := 0) hC dX9_end_15 ic0 ?_
    exact aw_zret0 hC dX9_end_16
  · skip
    refine aw_iload_n (pc := 4) (i := 1) hC dX9_end_4 rfl rfl ?_
    refine aw_aload_n (pc := 5) (i := 0) hC dX9_end_5 rfl rfl ?_
    refine aw_get (pc := 6) hC inX9 (v0 (j := 0) (by decide)) rfl rfl 0 (by decide) kw276 rfl rfl dX9_end_6 ?_
    refine aw_get (pc := 9) hC inX7 (v0 (j := 1) (by decide)) rfl rfl 1 (by decide) kw42 rfl rfl dX9_end_9 ?_
    refine aw_icmp_le (pc := 12) (tgt := 17) hC dX9_end_12 (by decide) (fun _ => ?_) (fun _ => ?_)
    · skip
      refine aw_aload_n (pc := 17) (i := 0) hC dX9_end_17 rfl rfl ?_
      refine aw_get (pc := 18) hC inX9 (v0 (j := 0) (by decide)) rfl rfl 0 (by decide) kw276 rfl rfl dX9_end_18 ?_
      refine aw_iload_n (pc := 21) (i := 1) hC dX9_end_21 rfl rfl ?_
      refine aw_putIN (pc := 22) hC inX7 (v0 (j := 1) (by decide)) rfl rfl 1 (by decide) kw42 rfl tyX7 tyX7_ok nmX7 rfl rfl (Nat.le_of_ble_eq_true rfl) rfl dX9_end_22 (fun μ1 => ?_)
      refine aw_iconst (pc := 25) (v := 1) hC dX9_end_25 ic1 ?_
      exact aw_zret1 hC dX9_end_26
    · skip
      refine aw_iconst (pc := 15) (v := 0) hC dX9_end_15 ic0 ?_
      exact aw_zret0 hC dX9_end_16
theorem dX9_fault_0 : decode cX9_fault 0 = .ok (.aload_n 0, 1) := by decide +kernel
theorem dX9_fault_1 : decode cX9_fault 1 = .ok (.getfield 67, 3) := by decide +kernel
theorem dX9_fault_4 : decode cX9_fault 4 = .ok (.ireturn, 1) := by decide +kernel
def f_X9_fault (μ : Mem) : Option (Int32) := some (μ 0 0 10)
set_option maxHeartbeats 4000000 in
set_option maxRecDepth 100000 in
theorem c_X9_fault (G : GG) (l : Launch) (μ : Mem) : CR G l yX9_fault (.code yX9_fault cX9_fault 1 (some .int)) 1 [.ref (gad G 0 0)] μ (f_X9_fault μ) := by
  refine CR.of (own := "SaturdayKeep") (L0 := [some (.ref (gad G 0 0))]) rfl rfl rfl (Nat.le_of_ble_eq_true rfl) (fun C hl hC => ?_)
  subst hl
  delta f_X9_fault
  refine aw_aload_n (pc := 0) (i := 0) hC dX9_fault_0 rfl rfl ?_
  refine aw_get (pc := 1) hC inX9 (v0 (j := 0) (by decide)) rfl rfl 10 (by decide) kw286 rfl rfl dX9_fault_1 ?_
  exact aw_iretR hC dX9_fault_4
theorem dX9_both_0 : decode cX9_both 0 = .ok (.iconst 0, 1) := by decide +kernel
theorem dX9_both_1 : decode cX9_both 1 = .ok (.istore_n 1, 1) := by decide +kernel
theorem dX9_both_2 : decode cX9_both 2 = .ok (.iload_n 1, 1) := by decide +kernel
theorem dX9_both_3 : decode cX9_both 3 = .ok (.sipush 400, 3) := by decide +kernel
theorem dX9_both_6 : decode cX9_both 6 = .ok (.if_icmp .gt 23, 3) := by decide +kernel
theorem dX9_both_9 : decode cX9_both 9 = .ok (.aload_n 0, 1) := by decide +kernel
theorem dX9_both_10 : decode cX9_both 10 = .ok (.getfield 42, 3) := by decide +kernel
theorem dX9_both_13 : decode cX9_both 13 = .ok (.iload_n 1, 1) := by decide +kernel
theorem dX9_both_14 : decode cX9_both 14 = .ok (.invokevirtual 287, 3) := by decide +kernel
theorem dX9_both_17 : decode cX9_both 17 = .ok (.iconst 2, 1) := by decide +kernel
theorem dX9_both_18 : decode cX9_both 18 = .ok (.if_icmp .ne 5, 3) := by decide +kernel
theorem dX9_both_21 : decode cX9_both 21 = .ok (.iload_n 1, 1) := by decide +kernel
theorem dX9_both_22 : decode cX9_both 22 = .ok (.ireturn, 1) := by decide +kernel
theorem dX9_both_23 : decode cX9_both 23 = .ok (.iinc 1 1, 3) := by decide +kernel
theorem dX9_both_26 : decode cX9_both 26 = .ok (.goto (-24), 3) := by decide +kernel
theorem dX9_both_29 : decode cX9_both 29 = .ok (.iconst (-1), 1) := by decide +kernel
theorem dX9_both_30 : decode cX9_both 30 = .ok (.ireturn, 1) := by decide +kernel
def lp_X9_both_2 (μ : Mem) : Nat → Int32 → Option (Int32)
  | 0, _ => none
  | n + 1, x1 => if 400 < x1 then (some (-1)) else ((f_X2_saturdaysAt 0 μ x1).bind fun (q2 : Int32) => if q2 = 2 then (some x1) else (lp_X9_both_2 μ n (x1 + 1)))
def f_X9_both (μ : Mem) : Option (Int32) := lp_X9_both_2 μ 4096 0
set_option maxHeartbeats 4000000 in
set_option maxRecDepth 100000 in
theorem c_X9_both (G : GG) (l : Launch) (μ : Mem) : CR G l yX9_both (.code yX9_both cX9_both 2 (some .int)) 4 [.ref (gad G 0 0)] μ (f_X9_both μ) := by
  refine CR.of (own := "SaturdayKeep") (L0 := [some (.ref (gad G 0 0)), none]) rfl rfl rfl (Nat.le_of_ble_eq_true rfl) (fun C hl hC => ?_)
  subst hl
  delta f_X9_both
  refine aw_iconst (pc := 0) (v := 0) hC dX9_both_0 ic0 ?_
  refine aw_istore_n (pc := 1) (i := 1) hC dX9_both_1 rfl rfl (by decide) ?_
  have hL2 : ∀ (n : Nat) (x1 : Int32), AW G C (qR G C 0 0 μ) 0 0 2 μ 2 [some (.ref (gad G 0 0)), some (.int x1)] [] (lp_X9_both_2 μ n x1) := by
    intro n
    induction n with
    | zero => intro x1; exact aw_none
    | succ n ih =>
      intro x1
      rw [lp_X9_both_2]
      refine aw_iload_n (pc := 2) (i := 1) hC dX9_both_2 rfl rfl ?_
      refine aw_sipush (pc := 3) (v := 400) hC dX9_both_3 sc400 ?_
      refine aw_icmp_gt (pc := 6) (tgt := 29) hC dX9_both_6 (by decide) (fun _ => ?_) (fun _ => ?_)
      · skip
        refine aw_iconst (pc := 29) (v := (-1)) hC dX9_both_29 icm1 ?_
        exact aw_iretR hC dX9_both_30
      · skip
        refine aw_aload_n (pc := 9) (i := 0) hC dX9_both_9 rfl rfl ?_
        refine aw_get (pc := 10) hC inX9 (v0 (j := 0) (by decide)) rfl rfl 4 (by decide) kw280 rfl rfl dX9_both_10 ?_
        refine aw_iload_n (pc := 13) (i := 1) hC dX9_both_13 rfl rfl ?_
        refine aw_callVR (pc := 14) (As := [.int x1]) hC mb_X2_saturdaysAt kw330 (by decide) (c_X2_saturdaysAt G C.2.1 0 (by decide) μ x1) (vH (h := 0) (j := 0) (by decide) (by decide)) rfl rfl rfl (Nat.le_of_ble_eq_true rfl) dX9_both_14 (fun q2 => ?_)
        refine aw_iconst (pc := 17) (v := 2) hC dX9_both_17 ic2 ?_
        refine aw_icmp_ne (pc := 18) (tgt := 23) hC dX9_both_18 (by decide) (fun _ => ?_) (fun _ => ?_)
        · skip
          refine aw_iload_n (pc := 21) (i := 1) hC dX9_both_21 rfl rfl ?_
          exact aw_iretR hC dX9_both_22
        · skip
          refine aw_iinc (pc := 23) (v := x1 + 1) hC dX9_both_23 rfl (congrArg (HAdd.hAdd _) ic1) rfl (by decide) ?_
          refine aw_goto (pc := 26) (tgt := 2) hC dX9_both_26 (by decide) ?_
          exact ih (x1 + 1)
  exact hL2 4096 0
theorem dX9_gone_0 : decode cX9_gone 0 = .ok (.aload_n 0, 1) := by decide +kernel
theorem dX9_gone_1 : decode cX9_gone 1 = .ok (.getfield 46, 3) := by decide +kernel
theorem dX9_gone_4 : decode cX9_gone 4 = .ok (.aload_n 0, 1) := by decide +kernel
theorem dX9_gone_5 : decode cX9_gone 5 = .ok (.getfield 42, 3) := by decide +kernel
theorem dX9_gone_8 : decode cX9_gone 8 = .ok (.invokevirtual 82, 3) := by decide +kernel
theorem dX9_gone_11 : decode cX9_gone 11 = .ok (.iconst 0, 1) := by decide +kernel
theorem dX9_gone_12 : decode cX9_gone 12 = .ok (.istore_n 1, 1) := by decide +kernel
theorem dX9_gone_13 : decode cX9_gone 13 = .ok (.iload_n 1, 1) := by decide +kernel
theorem dX9_gone_14 : decode cX9_gone 14 = .ok (.sipush 400, 3) := by decide +kernel
theorem dX9_gone_17 : decode cX9_gone 17 = .ok (.if_icmp .gt 28, 3) := by decide +kernel
theorem dX9_gone_20 : decode cX9_gone 20 = .ok (.aload_n 0, 1) := by decide +kernel
theorem dX9_gone_21 : decode cX9_gone 21 = .ok (.getfield 46, 3) := by decide +kernel
theorem dX9_gone_24 : decode cX9_gone 24 = .ok (.getfield 252, 3) := by decide +kernel
theorem dX9_gone_27 : decode cX9_gone 27 = .ok (.ifCond .ne 5, 3) := by decide +kernel
theorem dX9_gone_30 : decode cX9_gone 30 = .ok (.iload_n 1, 1) := by decide +kernel
theorem dX9_gone_31 : decode cX9_gone 31 = .ok (.ireturn, 1) := by decide +kernel
theorem dX9_gone_32 : decode cX9_gone 32 = .ok (.aload_n 0, 1) := by decide +kernel
theorem dX9_gone_33 : decode cX9_gone 33 = .ok (.getfield 46, 3) := by decide +kernel
theorem dX9_gone_36 : decode cX9_gone 36 = .ok (.invokevirtual 292, 3) := by decide +kernel
theorem dX9_gone_39 : decode cX9_gone 39 = .ok (.iinc 1 1, 3) := by decide +kernel
theorem dX9_gone_42 : decode cX9_gone 42 = .ok (.goto (-29), 3) := by decide +kernel
theorem dX9_gone_45 : decode cX9_gone 45 = .ok (.iconst (-1), 1) := by decide +kernel
theorem dX9_gone_46 : decode cX9_gone 46 = .ok (.ireturn, 1) := by decide +kernel
def lp_X9_gone_13  : Nat → Int32 → Mem → Option (Int32 × Mem)
  | 0, _, _ => none
  | n + 1, x2, μ3 => if 400 < x2 then (some ((-1), μ3)) else (if (μ3 2 0 10) = 0 then (some (x2, μ3)) else ((f_X2_build 1 μ3).bind fun (q4 : Mem) => lp_X9_gone_13 n (x2 + 1) q4))
def f_X9_gone (μ : Mem) : Option (Int32 × Mem) := (f_X2_copy 1 0 μ).bind fun (q1 : Mem) => lp_X9_gone_13 4096 0 q1
set_option maxHeartbeats 4000000 in
set_option maxRecDepth 100000 in
theorem c_X9_gone (G : GG) (l : Launch) (μ : Mem) : CI G l yX9_gone (.code yX9_gone cX9_gone 2 (some .int)) 4 [.ref (gad G 0 0)] μ (f_X9_gone μ) := by
  refine CI.of (own := "SaturdayKeep") (L0 := [some (.ref (gad G 0 0)), none]) rfl rfl rfl (Nat.le_of_ble_eq_true rfl) (fun C hl hC => ?_)
  subst hl
  delta f_X9_gone
  refine aw_aload_n (pc := 0) (i := 0) hC dX9_gone_0 rfl rfl ?_
  refine aw_get (pc := 1) hC inX9 (v0 (j := 0) (by decide)) rfl rfl 5 (by decide) kw281 rfl rfl dX9_gone_1 ?_
  refine aw_aload_n (pc := 4) (i := 0) hC dX9_gone_4 rfl rfl ?_
  refine aw_get (pc := 5) hC inX9 (v0 (j := 0) (by decide)) rfl rfl 4 (by decide) kw280 rfl rfl dX9_gone_5 ?_
  refine aw_callVV (pc := 8) (As := [.ref (gad G 1 0)]) hC mb_X2_copy kw346 (by decide) (c_X2_copy G C.2.1 1 0 (by decide) (by decide) μ ) (vH (h := 1) (j := 0) (by decide) (by decide)) rfl rfl rfl (Nat.le_of_ble_eq_true rfl) dX9_gone_8 (fun q1 => ?_)
  refine aw_iconst (pc := 11) (v := 0) hC dX9_gone_11 ic0 ?_
  refine aw_istore_n (pc := 12) (i := 1) hC dX9_gone_12 rfl rfl (by decide) ?_
  have hL13 : ∀ (n : Nat) (x2 : Int32) (μ3 : Mem), AW G C (qI G C 0 0) 0 0 2 μ3 13 [some (.ref (gad G 0 0)), some (.int x2)] [] (lp_X9_gone_13 n x2 μ3) := by
    intro n
    induction n with
    | zero => intro x2 μ3; exact aw_none
    | succ n ih =>
      intro x2 μ3
      rw [lp_X9_gone_13]
      refine aw_iload_n (pc := 13) (i := 1) hC dX9_gone_13 rfl rfl ?_
      refine aw_sipush (pc := 14) (v := 400) hC dX9_gone_14 sc400 ?_
      refine aw_icmp_gt (pc := 17) (tgt := 45) hC dX9_gone_17 (by decide) (fun _ => ?_) (fun _ => ?_)
      · skip
        refine aw_iconst (pc := 45) (v := (-1)) hC dX9_gone_45 icm1 ?_
        exact aw_iret hC dX9_gone_46
      · skip
        refine aw_aload_n (pc := 20) (i := 0) hC dX9_gone_20 rfl rfl ?_
        refine aw_get (pc := 21) hC inX9 (v0 (j := 0) (by decide)) rfl rfl 5 (by decide) kw281 rfl rfl dX9_gone_21 ?_
        refine aw_get (pc := 24) hC inX2 (vH (h := 1) (j := 0) (by decide) (by decide)) rfl rfl 10 (by decide) kw206 rfl rfl dX9_gone_24 ?_
        refine aw_if_ne (pc := 27) (tgt := 32) hC dX9_gone_27 (by decide) (fun _ => ?_) (fun _ => ?_)
        · skip
          refine aw_iload_n (pc := 30) (i := 1) hC dX9_gone_30 rfl rfl ?_
          exact aw_iret hC dX9_gone_31
        · skip
          refine aw_aload_n (pc := 32) (i := 0) hC dX9_gone_32 rfl rfl ?_
          refine aw_get (pc := 33) hC inX9 (v0 (j := 0) (by decide)) rfl rfl 5 (by decide) kw281 rfl rfl dX9_gone_33 ?_
          refine aw_callVV (pc := 36) (As := []) hC mb_X2_build kw374 (by decide) (c_X2_build G C.2.1 1 (by decide) μ3 ) (vH (h := 1) (j := 0) (by decide) (by decide)) rfl rfl rfl (Nat.le_of_ble_eq_true rfl) dX9_gone_36 (fun q4 => ?_)
          refine aw_iinc (pc := 39) (v := x2 + 1) hC dX9_gone_39 rfl (congrArg (HAdd.hAdd _) ic1) rfl (by decide) ?_
          refine aw_goto (pc := 42) (tgt := 13) hC dX9_gone_42 (by decide) ?_
          exact ih (x2 + 1) q4
  exact hL13 4096 0 q1
theorem dX9_oddsBy_0 : decode cX9_oddsBy 0 = .ok (.lconst 1, 1) := by decide +kernel
theorem dX9_oddsBy_1 : decode cX9_oddsBy 1 = .ok (.lstore_n 2, 1) := by decide +kernel
theorem dX9_oddsBy_2 : decode cX9_oddsBy 2 = .ok (.iconst 0, 1) := by decide +kernel
theorem dX9_oddsBy_3 : decode cX9_oddsBy 3 = .ok (.istore 4, 2) := by decide +kernel
theorem dX9_oddsBy_5 : decode cX9_oddsBy 5 = .ok (.iload 4, 2) := by decide +kernel
theorem dX9_oddsBy_7 : decode cX9_oddsBy 7 = .ok (.bipush 8, 2) := by decide +kernel
theorem dX9_oddsBy_9 : decode cX9_oddsBy 9 = .ok (.if_icmp .ge 43, 3) := by decide +kernel
theorem dX9_oddsBy_12 : decode cX9_oddsBy 12 = .ok (.lload_n 2, 1) := by decide +kernel
theorem dX9_oddsBy_13 : decode cX9_oddsBy 13 = .ok (.iload_n 1, 1) := by decide +kernel
theorem dX9_oddsBy_14 : decode cX9_oddsBy 14 = .ok (.iload 4, 2) := by decide +kernel
theorem dX9_oddsBy_16 : decode cX9_oddsBy 16 = .ok (.invokestatic 158, 3) := by decide +kernel
theorem dX9_oddsBy_19 : decode cX9_oddsBy 19 = .ok (.ifCond .eq 22, 3) := by decide +kernel
theorem dX9_oddsBy_22 : decode cX9_oddsBy 22 = .ok (.bipush 10, 2) := by decide +kernel
theorem dX9_oddsBy_24 : decode cX9_oddsBy 24 = .ok (.aload_n 0, 1) := by decide +kernel
theorem dX9_oddsBy_25 : decode cX9_oddsBy 25 = .ok (.getfield 42, 3) := by decide +kernel
theorem dX9_oddsBy_28 : decode cX9_oddsBy 28 = .ok (.getfield 139, 3) := by decide +kernel
theorem dX9_oddsBy_31 : decode cX9_oddsBy 31 = .ok (.iload 4, 2) := by decide +kernel
theorem dX9_oddsBy_33 : decode cX9_oddsBy 33 = .ok (.invokevirtual 165, 3) := by decide +kernel
theorem dX9_oddsBy_36 : decode cX9_oddsBy 36 = .ok (.isub, 1) := by decide +kernel
theorem dX9_oddsBy_37 : decode cX9_oddsBy 37 = .ok (.i2l, 1) := by decide +kernel
theorem dX9_oddsBy_38 : decode cX9_oddsBy 38 = .ok (.goto 6, 3) := by decide +kernel
theorem dX9_oddsBy_41 : decode cX9_oddsBy 41 = .ok (.ldc2_w 309, 3) := by decide +kernel
theorem dX9_oddsBy_44 : decode cX9_oddsBy 44 = .ok (.lmul, 1) := by decide +kernel
theorem dX9_oddsBy_45 : decode cX9_oddsBy 45 = .ok (.lstore_n 2, 1) := by decide +kernel
theorem dX9_oddsBy_46 : decode cX9_oddsBy 46 = .ok (.iinc 4 1, 3) := by decide +kernel
theorem dX9_oddsBy_49 : decode cX9_oddsBy 49 = .ok (.goto (-44), 3) := by decide +kernel
theorem dX9_oddsBy_52 : decode cX9_oddsBy 52 = .ok (.ldc2_w 311, 3) := by decide +kernel
theorem dX9_oddsBy_55 : decode cX9_oddsBy 55 = .ok (.lload_n 2, 1) := by decide +kernel
theorem dX9_oddsBy_56 : decode cX9_oddsBy 56 = .ok (.lsub, 1) := by decide +kernel
theorem dX9_oddsBy_57 : decode cX9_oddsBy 57 = .ok (.ldc2_w 313, 3) := by decide +kernel
theorem dX9_oddsBy_60 : decode cX9_oddsBy 60 = .ok (.ldiv, 1) := by decide +kernel
theorem dX9_oddsBy_61 : decode cX9_oddsBy 61 = .ok (.l2i, 1) := by decide +kernel
theorem dX9_oddsBy_62 : decode cX9_oddsBy 62 = .ok (.ireturn, 1) := by decide +kernel
def lp_X9_oddsBy_5 (a1 : Int32) (μ : Mem) (k52 : Int64 → Option (Int32)) : Nat → Int64 → Int32 → Option (Int32)
  | 0, _, _ => none
  | n + 1, x2, x3 => if 8 ≤ x3 then (k52 x2) else ((f_X9_holds a1 x3).bind fun (q4 : Int32) => if q4 = 0 then (lp_X9_oddsBy_5 a1 μ k52 n (x2 * 10) (x3 + 1)) else ((f_X1_risk 0 μ x3).bind fun (q5 : Int32) => lp_X9_oddsBy_5 a1 μ k52 n (x2 * ((10 - q5).toInt64)) (x3 + 1)))
def f_X9_oddsBy (μ : Mem) (a1 : Int32) : Option (Int32) := lp_X9_oddsBy_5 a1 μ (fun (x1 : Int64) => some (((100000000 - x1) / 10000).toInt32)) 4096 1 0
set_option maxHeartbeats 4000000 in
set_option maxRecDepth 100000 in
theorem c_X9_oddsBy (G : GG) (l : Launch) (μ : Mem) (a1 : Int32) : CR G l yX9_oddsBy (.code yX9_oddsBy cX9_oddsBy 5 (some .int)) 4 [.ref (gad G 0 0), .int a1] μ (f_X9_oddsBy μ a1) := by
  refine CR.of (own := "SaturdayKeep") (L0 := [some (.ref (gad G 0 0)), some (.int a1), none, none, none]) rfl rfl rfl (Nat.le_of_ble_eq_true rfl) (fun C hl hC => ?_)
  subst hl
  delta f_X9_oddsBy
  refine aw_lconst (pc := 0) (v := 1) hC dX9_oddsBy_0 lc1 ?_
  refine aw_lstore_n (pc := 1) (i := 2) hC dX9_oddsBy_1 rfl rfl (by decide) ?_
  refine aw_iconst (pc := 2) (v := 0) hC dX9_oddsBy_2 ic0 ?_
  refine aw_istore (pc := 3) hC dX9_oddsBy_3 rfl (by decide) ?_
  have hL5 : ∀ (k52 : Int64 → Option (Int32)) (hk52 : ∀ (x1 : Int64), AW G C (qR G C 0 0 μ) 0 0 5 μ 52 [none, none, some (.long x1), none, none] [] (k52 x1)) (n : Nat) (x2 : Int64) (x3 : Int32), AW G C (qR G C 0 0 μ) 0 0 5 μ 5 [some (.ref (gad G 0 0)), some (.int a1), some (.long x2), none, some (.int x3)] [] (lp_X9_oddsBy_5 a1 μ k52 n x2 x3) := by
    intro k52 hk52 n
    induction n with
    | zero => intro x2 x3; exact aw_none
    | succ n ih =>
      intro x2 x3
      rw [lp_X9_oddsBy_5]
      refine aw_iload (pc := 5) hC dX9_oddsBy_5 rfl ?_
      refine aw_bipush (pc := 7) (v := 8) hC dX9_oddsBy_7 bc8 ?_
      refine aw_icmp_ge (pc := 9) (tgt := 52) hC dX9_oddsBy_9 (by decide) (fun _ => ?_) (fun _ => ?_)
      · skip
        exact aw_drop [0, 1, 4] (hk52 x2)
      · skip
        refine aw_lload_n (pc := 12) (i := 2) hC dX9_oddsBy_12 rfl rfl ?_
        refine aw_iload_n (pc := 13) (i := 1) hC dX9_oddsBy_13 rfl rfl ?_
        refine aw_iload (pc := 14) hC dX9_oddsBy_14 rfl ?_
        refine aw_callSR (pc := 16) (As := [.int a1, .int x3]) hC ms_X9_holds kw415 (by decide) (c_X9_holds G C.2.1   μ a1 x3) rfl (Nat.le_of_ble_eq_true rfl) dX9_oddsBy_16 (fun q4 => ?_)
        refine aw_if_eq (pc := 19) (tgt := 41) hC dX9_oddsBy_19 (by decide) (fun _ => ?_) (fun _ => ?_)
        · skip
          refine aw_ldc2 (pc := 41) hC kw428 dX9_oddsBy_41 ?_
          refine aw_lmul (pc := 44) hC dX9_oddsBy_44 ?_
          refine aw_lstore_n (pc := 45) (i := 2) hC dX9_oddsBy_45 rfl rfl (by decide) ?_
          refine aw_iinc (pc := 46) (v := x3 + 1) hC dX9_oddsBy_46 rfl (congrArg (HAdd.hAdd _) ic1) rfl (by decide) ?_
          refine aw_goto (pc := 49) (tgt := 5) hC dX9_oddsBy_49 (by decide) ?_
          exact ih (x2 * 10) (x3 + 1)
        · skip
          refine aw_bipush (pc := 22) (v := 10) hC dX9_oddsBy_22 bc10 ?_
          refine aw_aload_n (pc := 24) (i := 0) hC dX9_oddsBy_24 rfl rfl ?_
          refine aw_get (pc := 25) hC inX9 (v0 (j := 0) (by decide)) rfl rfl 4 (by decide) kw280 rfl rfl dX9_oddsBy_25 ?_
          refine aw_get (pc := 28) hC inX2 (vH (h := 0) (j := 0) (by decide) (by decide)) rfl rfl 0 (by decide) kw186 rfl rfl dX9_oddsBy_28 ?_
          refine aw_iload (pc := 31) hC dX9_oddsBy_31 rfl ?_
          refine aw_callVR (pc := 33) (As := [.int x3]) hC mb_X1_risk kw416 (by decide) (c_X1_risk G C.2.1 0 (by decide) μ x3) (vH (h := 0) (j := 1) (by decide) (by decide)) rfl rfl rfl (Nat.le_of_ble_eq_true rfl) dX9_oddsBy_33 (fun q5 => ?_)
          refine aw_isub (pc := 36) hC dX9_oddsBy_36 ?_
          refine aw_i2l (pc := 37) hC dX9_oddsBy_37 ?_
          refine aw_goto (pc := 38) (tgt := 44) hC dX9_oddsBy_38 (by decide) ?_
          refine aw_lmul (pc := 44) hC dX9_oddsBy_44 ?_
          refine aw_lstore_n (pc := 45) (i := 2) hC dX9_oddsBy_45 rfl rfl (by decide) ?_
          refine aw_iinc (pc := 46) (v := x3 + 1) hC dX9_oddsBy_46 rfl (congrArg (HAdd.hAdd _) ic1) rfl (by decide) ?_
          refine aw_goto (pc := 49) (tgt := 5) hC dX9_oddsBy_49 (by decide) ?_
          exact ih (x2 * ((10 - q5).toInt64)) (x3 + 1)
  refine hL5 (fun (x1 : Int64) => some (((100000000 - x1) / 10000).toInt32)) (fun x1 => ?_) 4096 1 0
  · skip
    refine aw_ldc2 (pc := 52) hC kw429 dX9_oddsBy_52 ?_
    refine aw_lload_n (pc := 55) (i := 2) hC dX9_oddsBy_55 rfl rfl ?_
    refine aw_lsub (pc := 56) hC dX9_oddsBy_56 ?_
    refine aw_ldc2 (pc := 57) hC kw430 dX9_oddsBy_57 ?_
    refine aw_ldiv (pc := 60) hC dX9_oddsBy_60 (by decide) ?_
    refine aw_l2i (pc := 61) hC dX9_oddsBy_61 ?_
    exact aw_iretR hC dX9_oddsBy_62
theorem dX9_odds_0 : decode cX9_odds 0 = .ok (.aload_n 0, 1) := by decide +kernel
theorem dX9_odds_1 : decode cX9_odds 1 = .ok (.aload_n 0, 1) := by decide +kernel
theorem dX9_odds_2 : decode cX9_odds 2 = .ok (.getfield 42, 3) := by decide +kernel
theorem dX9_odds_5 : decode cX9_odds 5 = .ok (.aload_n 0, 1) := by decide +kernel
theorem dX9_odds_6 : decode cX9_odds 6 = .ok (.getfield 42, 3) := by decide +kernel
theorem dX9_odds_9 : decode cX9_odds 9 = .ok (.getfield 239, 3) := by decide +kernel
theorem dX9_odds_12 : decode cX9_odds 12 = .ok (.invokevirtual 199, 3) := by decide +kernel
theorem dX9_odds_15 : decode cX9_odds 15 = .ok (.invokevirtual 306, 3) := by decide +kernel
theorem dX9_odds_18 : decode cX9_odds 18 = .ok (.ireturn, 1) := by decide +kernel
def f_X9_odds (μ : Mem) : Option (Int32) := (f_X2_watchers 0 μ (μ 1 0 8)).bind fun (q1 : Int32) => (f_X9_oddsBy μ q1).bind fun (q2 : Int32) => some q2
set_option maxHeartbeats 4000000 in
set_option maxRecDepth 100000 in
theorem c_X9_odds (G : GG) (l : Launch) (μ : Mem) : CR G l yX9_odds (.code yX9_odds cX9_odds 1 (some .int)) 5 [.ref (gad G 0 0)] μ (f_X9_odds μ) := by
  refine CR.of (own := "SaturdayKeep") (L0 := [some (.ref (gad G 0 0))]) rfl rfl rfl (Nat.le_of_ble_eq_true rfl) (fun C hl hC => ?_)
  subst hl
  delta f_X9_odds
  refine aw_aload_n (pc := 0) (i := 0) hC dX9_odds_0 rfl rfl ?_
  refine aw_aload_n (pc := 1) (i := 0) hC dX9_odds_1 rfl rfl ?_
  refine aw_get (pc := 2) hC inX9 (v0 (j := 0) (by decide)) rfl rfl 4 (by decide) kw280 rfl rfl dX9_odds_2 ?_
  refine aw_aload_n (pc := 5) (i := 0) hC dX9_odds_5 rfl rfl ?_
  refine aw_get (pc := 6) hC inX9 (v0 (j := 0) (by decide)) rfl rfl 4 (by decide) kw280 rfl rfl dX9_odds_6 ?_
  refine aw_get (pc := 9) hC inX2 (vH (h := 0) (j := 0) (by decide) (by decide)) rfl rfl 8 (by decide) kw200 rfl rfl dX9_odds_9 ?_
  refine aw_callVR (pc := 12) (As := [.int (μ 1 0 8)]) hC mb_X2_watchers kw383 (by decide) (c_X2_watchers G C.2.1 0 (by decide) μ (μ 1 0 8)) (vH (h := 0) (j := 0) (by decide) (by decide)) rfl rfl rfl (Nat.le_of_ble_eq_true rfl) dX9_odds_12 (fun q1 => ?_)
  refine aw_callVR (pc := 15) (As := [.int q1]) hC mb_X9_oddsBy kw411 (by decide) (c_X9_oddsBy G C.2.1   μ q1) (v0 (j := 0) (by decide)) rfl rfl rfl (Nat.le_of_ble_eq_true rfl) dX9_odds_15 (fun q2 => ?_)
  exact aw_iretR hC dX9_odds_18
theorem dX9_send_0 : decode cX9_send 0 = .ok (.aload_n 0, 1) := by decide +kernel
theorem dX9_send_1 : decode cX9_send 1 = .ok (.getfield 42, 3) := by decide +kernel
theorem dX9_send_4 : decode cX9_send 4 = .ok (.aload_n 0, 1) := by decide +kernel
theorem dX9_send_5 : decode cX9_send 5 = .ok (.getfield 42, 3) := by decide +kernel
theorem dX9_send_8 : decode cX9_send 8 = .ok (.getfield 239, 3) := by decide +kernel
theorem dX9_send_11 : decode cX9_send 11 = .ok (.invokevirtual 199, 3) := by decide +kernel
theorem dX9_send_14 : decode cX9_send 14 = .ok (.ireturn, 1) := by decide +kernel
def f_X9_send (μ : Mem) : Option (Int32) := (f_X2_watchers 0 μ (μ 1 0 8)).bind fun (q1 : Int32) => some q1
set_option maxHeartbeats 4000000 in
set_option maxRecDepth 100000 in
theorem c_X9_send (G : GG) (l : Launch) (μ : Mem) : CR G l yX9_send (.code yX9_send cX9_send 1 (some .int)) 5 [.ref (gad G 0 0)] μ (f_X9_send μ) := by
  refine CR.of (own := "SaturdayKeep") (L0 := [some (.ref (gad G 0 0))]) rfl rfl rfl (Nat.le_of_ble_eq_true rfl) (fun C hl hC => ?_)
  subst hl
  delta f_X9_send
  refine aw_aload_n (pc := 0) (i := 0) hC dX9_send_0 rfl rfl ?_
  refine aw_get (pc := 1) hC inX9 (v0 (j := 0) (by decide)) rfl rfl 4 (by decide) kw280 rfl rfl dX9_send_1 ?_
  refine aw_aload_n (pc := 4) (i := 0) hC dX9_send_4 rfl rfl ?_
  refine aw_get (pc := 5) hC inX9 (v0 (j := 0) (by decide)) rfl rfl 4 (by decide) kw280 rfl rfl dX9_send_5 ?_
  refine aw_get (pc := 8) hC inX2 (vH (h := 0) (j := 0) (by decide) (by decide)) rfl rfl 8 (by decide) kw200 rfl rfl dX9_send_8 ?_
  refine aw_callVR (pc := 11) (As := [.int (μ 1 0 8)]) hC mb_X2_watchers kw383 (by decide) (c_X2_watchers G C.2.1 0 (by decide) μ (μ 1 0 8)) (vH (h := 0) (j := 0) (by decide) (by decide)) rfl rfl rfl (Nat.le_of_ble_eq_true rfl) dX9_send_11 (fun q1 => ?_)
  exact aw_iretR hC dX9_send_14
theorem dX9_mend_0 : decode cX9_mend 0 = .ok (.aload_n 0, 1) := by decide +kernel
theorem dX9_mend_1 : decode cX9_mend 1 = .ok (.getfield 42, 3) := by decide +kernel
theorem dX9_mend_4 : decode cX9_mend 4 = .ok (.aload_n 0, 1) := by decide +kernel
theorem dX9_mend_5 : decode cX9_mend 5 = .ok (.getfield 42, 3) := by decide +kernel
theorem dX9_mend_8 : decode cX9_mend 8 = .ok (.getfield 239, 3) := by decide +kernel
theorem dX9_mend_11 : decode cX9_mend 11 = .ok (.invokevirtual 193, 3) := by decide +kernel
theorem dX9_mend_14 : decode cX9_mend 14 = .ok (.aload_n 0, 1) := by decide +kernel
theorem dX9_mend_15 : decode cX9_mend 15 = .ok (.getfield 42, 3) := by decide +kernel
theorem dX9_mend_18 : decode cX9_mend 18 = .ok (.getfield 139, 3) := by decide +kernel
theorem dX9_mend_21 : decode cX9_mend 21 = .ok (.invokevirtual 322, 3) := by decide +kernel
theorem dX9_mend_24 : decode cX9_mend 24 = .ok (.iand, 1) := by decide +kernel
theorem dX9_mend_25 : decode cX9_mend 25 = .ok (.invokestatic 317, 3) := by decide +kernel
theorem dX9_mend_28 : decode cX9_mend 28 = .ok (.ireturn, 1) := by decide +kernel
def f_X9_mend (μ : Mem) : Option (Int32) := (f_X2_holesInto 0 μ (μ 1 0 8)).bind fun (q1 : Int32) => (f_X1_roomsHere 0 μ).bind fun (q2 : Int32) => (f_J6_bitCount_0f7a4 (q1 &&& q2)).bind fun (q3 : Int32) => some q3
set_option maxHeartbeats 4000000 in
set_option maxRecDepth 100000 in
theorem c_X9_mend (G : GG) (l : Launch) (μ : Mem) : CR G l yX9_mend (.code yX9_mend cX9_mend 1 (some .int)) 4 [.ref (gad G 0 0)] μ (f_X9_mend μ) := by
  refine CR.of (own := "SaturdayKeep") (L0 := [some (.ref (gad G 0 0))]) rfl rfl rfl (Nat.le_of_ble_eq_true rfl) (fun C hl hC => ?_)
  subst hl
  delta f_X9_mend
  refine aw_aload_n (pc := 0) (i := 0) hC dX9_mend_0 rfl rfl ?_
  refine aw_get (pc := 1) hC inX9 (v0 (j := 0) (by decide)) rfl rfl 4 (by decide) kw280 rfl rfl dX9_mend_1 ?_
  refine aw_aload_n (pc := 4) (i := 0) hC dX9_mend_4 rfl rfl ?_
  refine aw_get (pc := 5) hC inX9 (v0 (j := 0) (by decide)) rfl rfl 4 (by decide) kw280 rfl rfl dX9_mend_5 ?_
  refine aw_get (pc := 8) hC inX2 (vH (h := 0) (j := 0) (by decide) (by decide)) rfl rfl 8 (by decide) kw200 rfl rfl dX9_mend_8 ?_
  refine aw_callVR (pc := 11) (As := [.int (μ 1 0 8)]) hC mb_X2_holesInto kw439 (by decide) (c_X2_holesInto G C.2.1 0 (by decide) μ (μ 1 0 8)) (vH (h := 0) (j := 0) (by decide) (by decide)) rfl rfl rfl (Nat.le_of_ble_eq_true rfl) dX9_mend_11 (fun q1 => ?_)
  refine aw_aload_n (pc := 14) (i := 0) hC dX9_mend_14 rfl rfl ?_
  refine aw_get (pc := 15) hC inX9 (v0 (j := 0) (by decide)) rfl rfl 4 (by decide) kw280 rfl rfl dX9_mend_15 ?_
  refine aw_get (pc := 18) hC inX2 (vH (h := 0) (j := 0) (by decide) (by decide)) rfl rfl 0 (by decide) kw186 rfl rfl dX9_mend_18 ?_
  refine aw_callVR (pc := 21) (As := []) hC mb_X1_roomsHere kw443 (by decide) (c_X1_roomsHere G C.2.1 0 (by decide) μ ) (vH (h := 0) (j := 1) (by decide) (by decide)) rfl rfl rfl (Nat.le_of_ble_eq_true rfl) dX9_mend_21 (fun q2 => ?_)
  refine aw_iand (pc := 24) hC dX9_mend_24 ?_
  refine aw_callSR (pc := 25) (As := [.int (q1 &&& q2)]) hC ms_J6_bitCount_0f7a4 kw453 (by decide) (c_J6_bitCount_0f7a4 G C.2.1   μ (q1 &&& q2)) rfl (Nat.le_of_ble_eq_true rfl) dX9_mend_25 (fun q3 => ?_)
  exact aw_iretR hC dX9_mend_28
theorem dX9_shutsAll_0 : decode cX9_shutsAll 0 = .ok (.iconst 0, 1) := by decide +kernel
theorem dX9_shutsAll_1 : decode cX9_shutsAll 1 = .ok (.istore_n 2, 1) := by decide +kernel
theorem dX9_shutsAll_2 : decode cX9_shutsAll 2 = .ok (.iload_n 2, 1) := by decide +kernel
theorem dX9_shutsAll_3 : decode cX9_shutsAll 3 = .ok (.bipush 8, 2) := by decide +kernel
theorem dX9_shutsAll_5 : decode cX9_shutsAll 5 = .ok (.if_icmp .ge 34, 3) := by decide +kernel
theorem dX9_shutsAll_8 : decode cX9_shutsAll 8 = .ok (.iload_n 1, 1) := by decide +kernel
theorem dX9_shutsAll_9 : decode cX9_shutsAll 9 = .ok (.iload_n 2, 1) := by decide +kernel
theorem dX9_shutsAll_10 : decode cX9_shutsAll 10 = .ok (.invokestatic 158, 3) := by decide +kernel
theorem dX9_shutsAll_13 : decode cX9_shutsAll 13 = .ok (.ifCond .ne 20, 3) := by decide +kernel
theorem dX9_shutsAll_16 : decode cX9_shutsAll 16 = .ok (.aload_n 0, 1) := by decide +kernel
theorem dX9_shutsAll_17 : decode cX9_shutsAll 17 = .ok (.getfield 42, 3) := by decide +kernel
theorem dX9_shutsAll_20 : decode cX9_shutsAll 20 = .ok (.iload_n 2, 1) := by decide +kernel
theorem dX9_shutsAll_21 : decode cX9_shutsAll 21 = .ok (.invokevirtual 190, 3) := by decide +kernel
theorem dX9_shutsAll_24 : decode cX9_shutsAll 24 = .ok (.iload_n 1, 1) := by decide +kernel
theorem dX9_shutsAll_25 : decode cX9_shutsAll 25 = .ok (.iconst (-1), 1) := by decide +kernel
theorem dX9_shutsAll_26 : decode cX9_shutsAll 26 = .ok (.ixor, 1) := by decide +kernel
theorem dX9_shutsAll_27 : decode cX9_shutsAll 27 = .ok (.iand, 1) := by decide +kernel
theorem dX9_shutsAll_28 : decode cX9_shutsAll 28 = .ok (.ifCond .eq 5, 3) := by decide +kernel
theorem dX9_shutsAll_31 : decode cX9_shutsAll 31 = .ok (.iconst 0, 1) := by decide +kernel
theorem dX9_shutsAll_32 : decode cX9_shutsAll 32 = .ok (.ireturn, 1) := by decide +kernel
theorem dX9_shutsAll_33 : decode cX9_shutsAll 33 = .ok (.iinc 2 1, 3) := by decide +kernel
theorem dX9_shutsAll_36 : decode cX9_shutsAll 36 = .ok (.goto (-34), 3) := by decide +kernel
theorem dX9_shutsAll_39 : decode cX9_shutsAll 39 = .ok (.iconst 1, 1) := by decide +kernel
theorem dX9_shutsAll_40 : decode cX9_shutsAll 40 = .ok (.ireturn, 1) := by decide +kernel
def lp_X9_shutsAll_2 (a1 : Int32) (μ : Mem) : Nat → Int32 → Option (Int32)
  | 0, _ => none
  | n + 1, x1 => if 8 ≤ x1 then (some 1) else ((f_X9_holds a1 x1).bind fun (q2 : Int32) => if q2 = 0 then ((f_X2_holesFrom 0 μ x1).bind fun (q3 : Int32) => if (q3 &&& (a1 ^^^ (-1))) = 0 then (lp_X9_shutsAll_2 a1 μ n (x1 + 1)) else (some 0)) else (lp_X9_shutsAll_2 a1 μ n (x1 + 1)))
def f_X9_shutsAll (μ : Mem) (a1 : Int32) : Option (Int32) := lp_X9_shutsAll_2 a1 μ 4096 0
set_option maxHeartbeats 4000000 in
set_option maxRecDepth 100000 in
theorem c_X9_shutsAll (G : GG) (l : Launch) (μ : Mem) (a1 : Int32) : CR G l yX9_shutsAll (.code yX9_shutsAll cX9_shutsAll 3 (some .boolean)) 3 [.ref (gad G 0 0), .int a1] μ (f_X9_shutsAll μ a1) := by
  refine CR.of (own := "SaturdayKeep") (L0 := [some (.ref (gad G 0 0)), some (.int a1), none]) rfl rfl rfl (Nat.le_of_ble_eq_true rfl) (fun C hl hC => ?_)
  subst hl
  delta f_X9_shutsAll
  refine aw_iconst (pc := 0) (v := 0) hC dX9_shutsAll_0 ic0 ?_
  refine aw_istore_n (pc := 1) (i := 2) hC dX9_shutsAll_1 rfl rfl (by decide) ?_
  have hL2 : ∀ (n : Nat) (x1 : Int32), AW G C (qR G C 0 0 μ) 0 0 3 μ 2 [some (.ref (gad G 0 0)), some (.int a1), some (.int x1)] [] (lp_X9_shutsAll_2 a1 μ n x1) := by
    intro n
    induction n with
    | zero => intro x1; exact aw_none
    | succ n ih =>
      intro x1
      rw [lp_X9_shutsAll_2]
      refine aw_iload_n (pc := 2) (i := 2) hC dX9_shutsAll_2 rfl rfl ?_
      refine aw_bipush (pc := 3) (v := 8) hC dX9_shutsAll_3 bc8 ?_
      refine aw_icmp_ge (pc := 5) (tgt := 39) hC dX9_shutsAll_5 (by decide) (fun _ => ?_) (fun _ => ?_)
      · skip
        refine aw_iconst (pc := 39) (v := 1) hC dX9_shutsAll_39 ic1 ?_
        exact aw_zret1R hC dX9_shutsAll_40
      · skip
        refine aw_iload_n (pc := 8) (i := 1) hC dX9_shutsAll_8 rfl rfl ?_
        refine aw_iload_n (pc := 9) (i := 2) hC dX9_shutsAll_9 rfl rfl ?_
        refine aw_callSR (pc := 10) (As := [.int a1, .int x1]) hC ms_X9_holds kw415 (by decide) (c_X9_holds G C.2.1   μ a1 x1) rfl (Nat.le_of_ble_eq_true rfl) dX9_shutsAll_10 (fun q2 => ?_)
        refine aw_if_ne (pc := 13) (tgt := 33) hC dX9_shutsAll_13 (by decide) (fun _ => ?_) (fun _ => ?_)
        · skip
          refine aw_aload_n (pc := 16) (i := 0) hC dX9_shutsAll_16 rfl rfl ?_
          refine aw_get (pc := 17) hC inX9 (v0 (j := 0) (by decide)) rfl rfl 4 (by decide) kw280 rfl rfl dX9_shutsAll_17 ?_
          refine aw_iload_n (pc := 20) (i := 2) hC dX9_shutsAll_20 rfl rfl ?_
          refine aw_callVR (pc := 21) (As := [.int x1]) hC mb_X2_holesFrom kw467 (by decide) (c_X2_holesFrom G C.2.1 0 (by decide) μ x1) (vH (h := 0) (j := 0) (by decide) (by decide)) rfl rfl rfl (Nat.le_of_ble_eq_true rfl) dX9_shutsAll_21 (fun q3 => ?_)
          refine aw_iload_n (pc := 24) (i := 1) hC dX9_shutsAll_24 rfl rfl ?_
          refine aw_iconst (pc := 25) (v := (-1)) hC dX9_shutsAll_25 icm1 ?_
          refine aw_ixor (pc := 26) hC dX9_shutsAll_26 ?_
          refine aw_iand (pc := 27) hC dX9_shutsAll_27 ?_
          refine aw_if_eq (pc := 28) (tgt := 33) hC dX9_shutsAll_28 (by decide) (fun _ => ?_) (fun _ => ?_)
          · skip
            refine aw_iinc (pc := 33) (v := x1 + 1) hC dX9_shutsAll_33 rfl (congrArg (HAdd.hAdd _) ic1) rfl (by decide) ?_
            refine aw_goto (pc := 36) (tgt := 2) hC dX9_shutsAll_36 (by decide) ?_
            exact ih (x1 + 1)
          · skip
            refine aw_iconst (pc := 31) (v := 0) hC dX9_shutsAll_31 ic0 ?_
            exact aw_zret0R hC dX9_shutsAll_32
        · skip
          refine aw_iinc (pc := 33) (v := x1 + 1) hC dX9_shutsAll_33 rfl (congrArg (HAdd.hAdd _) ic1) rfl (by decide) ?_
          refine aw_goto (pc := 36) (tgt := 2) hC dX9_shutsAll_36 (by decide) ?_
          exact ih (x1 + 1)
  exact hL2 4096 0
theorem dX9_shut_0 : decode cX9_shut 0 = .ok (.sipush 255, 3) := by decide +kernel
theorem dX9_shut_3 : decode cX9_shut 3 = .ok (.istore_n 1, 1) := by decide +kernel
theorem dX9_shut_4 : decode cX9_shut 4 = .ok (.sipush 255, 3) := by decide +kernel
theorem dX9_shut_7 : decode cX9_shut 7 = .ok (.istore_n 2, 1) := by decide +kernel
theorem dX9_shut_8 : decode cX9_shut 8 = .ok (.iload_n 2, 1) := by decide +kernel
theorem dX9_shut_9 : decode cX9_shut 9 = .ok (.ifCond .lt 30, 3) := by decide +kernel
theorem dX9_shut_12 : decode cX9_shut 12 = .ok (.iload_n 2, 1) := by decide +kernel
theorem dX9_shut_13 : decode cX9_shut 13 = .ok (.invokestatic 317, 3) := by decide +kernel
theorem dX9_shut_16 : decode cX9_shut 16 = .ok (.iload_n 1, 1) := by decide +kernel
theorem dX9_shut_17 : decode cX9_shut 17 = .ok (.invokestatic 317, 3) := by decide +kernel
theorem dX9_shut_20 : decode cX9_shut 20 = .ok (.if_icmp .gt 13, 3) := by decide +kernel
theorem dX9_shut_23 : decode cX9_shut 23 = .ok (.aload_n 0, 1) := by decide +kernel
theorem dX9_shut_24 : decode cX9_shut 24 = .ok (.iload_n 2, 1) := by decide +kernel
theorem dX9_shut_25 : decode cX9_shut 25 = .ok (.invokevirtual 325, 3) := by decide +kernel
theorem dX9_shut_28 : decode cX9_shut 28 = .ok (.ifCond .eq 5, 3) := by decide +kernel
theorem dX9_shut_31 : decode cX9_shut 31 = .ok (.iload_n 2, 1) := by decide +kernel
theorem dX9_shut_32 : decode cX9_shut 32 = .ok (.istore_n 1, 1) := by decide +kernel
theorem dX9_shut_33 : decode cX9_shut 33 = .ok (.iinc 2 (-1), 3) := by decide +kernel
theorem dX9_shut_36 : decode cX9_shut 36 = .ok (.goto (-28), 3) := by decide +kernel
theorem dX9_shut_39 : decode cX9_shut 39 = .ok (.iload_n 1, 1) := by decide +kernel
theorem dX9_shut_40 : decode cX9_shut 40 = .ok (.ireturn, 1) := by decide +kernel
def lp_X9_shut_8 (μ : Mem) : Nat → Int32 → Int32 → Option (Int32)
  | 0, _, _ => none
  | n + 1, x1, x2 => if x2 < 0 then (some x1) else ((f_J6_bitCount_0f7a4 x2).bind fun (q3 : Int32) => (f_J6_bitCount_0f7a4 x1).bind fun (q4 : Int32) => if q4 < q3 then (lp_X9_shut_8 μ n x1 (x2 + (-1))) else ((f_X9_shutsAll μ x2).bind fun (q5 : Int32) => if q5 = 0 then (lp_X9_shut_8 μ n x1 (x2 + (-1))) else (lp_X9_shut_8 μ n x2 (x2 + (-1)))))
def f_X9_shut (μ : Mem) : Option (Int32) := lp_X9_shut_8 μ 4096 255 255
set_option maxHeartbeats 4000000 in
set_option maxRecDepth 100000 in
theorem c_X9_shut (G : GG) (l : Launch) (μ : Mem) : CR G l yX9_shut (.code yX9_shut cX9_shut 3 (some .int)) 4 [.ref (gad G 0 0)] μ (f_X9_shut μ) := by
  refine CR.of (own := "SaturdayKeep") (L0 := [some (.ref (gad G 0 0)), none, none]) rfl rfl rfl (Nat.le_of_ble_eq_true rfl) (fun C hl hC => ?_)
  subst hl
  delta f_X9_shut
  refine aw_sipush (pc := 0) (v := 255) hC dX9_shut_0 sc255 ?_
  refine aw_istore_n (pc := 3) (i := 1) hC dX9_shut_3 rfl rfl (by decide) ?_
  refine aw_sipush (pc := 4) (v := 255) hC dX9_shut_4 sc255 ?_
  refine aw_istore_n (pc := 7) (i := 2) hC dX9_shut_7 rfl rfl (by decide) ?_
  have hL8 : ∀ (n : Nat) (x1 : Int32) (x2 : Int32), AW G C (qR G C 0 0 μ) 0 0 3 μ 8 [some (.ref (gad G 0 0)), some (.int x1), some (.int x2)] [] (lp_X9_shut_8 μ n x1 x2) := by
    intro n
    induction n with
    | zero => intro x1 x2; exact aw_none
    | succ n ih =>
      intro x1 x2
      rw [lp_X9_shut_8]
      refine aw_iload_n (pc := 8) (i := 2) hC dX9_shut_8 rfl rfl ?_
      refine aw_if_lt (pc := 9) (tgt := 39) hC dX9_shut_9 (by decide) (fun _ => ?_) (fun _ => ?_)
      · skip
        refine aw_iload_n (pc := 39) (i := 1) hC dX9_shut_39 rfl rfl ?_
        exact aw_iretR hC dX9_shut_40
      · skip
        refine aw_iload_n (pc := 12) (i := 2) hC dX9_shut_12 rfl rfl ?_
        refine aw_callSR (pc := 13) (As := [.int x2]) hC ms_J6_bitCount_0f7a4 kw453 (by decide) (c_J6_bitCount_0f7a4 G C.2.1   μ x2) rfl (Nat.le_of_ble_eq_true rfl) dX9_shut_13 (fun q3 => ?_)
        refine aw_iload_n (pc := 16) (i := 1) hC dX9_shut_16 rfl rfl ?_
        refine aw_callSR (pc := 17) (As := [.int x1]) hC ms_J6_bitCount_0f7a4 kw453 (by decide) (c_J6_bitCount_0f7a4 G C.2.1   μ x1) rfl (Nat.le_of_ble_eq_true rfl) dX9_shut_17 (fun q4 => ?_)
        refine aw_icmp_gt (pc := 20) (tgt := 33) hC dX9_shut_20 (by decide) (fun _ => ?_) (fun _ => ?_)
        · skip
          refine aw_iinc (pc := 33) (v := x2 + (-1)) hC dX9_shut_33 rfl (congrArg (HAdd.hAdd _) icm1) rfl (by decide) ?_
          refine aw_goto (pc := 36) (tgt := 8) hC dX9_shut_36 (by decide) ?_
          exact ih x1 (x2 + (-1))
        · skip
          refine aw_aload_n (pc := 23) (i := 0) hC dX9_shut_23 rfl rfl ?_
          refine aw_iload_n (pc := 24) (i := 2) hC dX9_shut_24 rfl rfl ?_
          refine aw_callVR (pc := 25) (As := [.int x2]) hC mb_X9_shutsAll kw463 (by decide) (c_X9_shutsAll G C.2.1   μ x2) (v0 (j := 0) (by decide)) rfl rfl rfl (Nat.le_of_ble_eq_true rfl) dX9_shut_25 (fun q5 => ?_)
          refine aw_if_eq (pc := 28) (tgt := 33) hC dX9_shut_28 (by decide) (fun _ => ?_) (fun _ => ?_)
          · skip
            refine aw_iinc (pc := 33) (v := x2 + (-1)) hC dX9_shut_33 rfl (congrArg (HAdd.hAdd _) icm1) rfl (by decide) ?_
            refine aw_goto (pc := 36) (tgt := 8) hC dX9_shut_36 (by decide) ?_
            exact ih x1 (x2 + (-1))
          · skip
            refine aw_iload_n (pc := 31) (i := 2) hC dX9_shut_31 rfl rfl ?_
            refine aw_istore_n (pc := 32) (i := 1) hC dX9_shut_32 rfl rfl (by decide) ?_
            refine aw_iinc (pc := 33) (v := x2 + (-1)) hC dX9_shut_33 rfl (congrArg (HAdd.hAdd _) icm1) rfl (by decide) ?_
            refine aw_goto (pc := 36) (tgt := 8) hC dX9_shut_36 (by decide) ?_
            exact ih x2 (x2 + (-1))
  exact hL8 4096 255 255
theorem dX9_quiet_0 : decode cX9_quiet 0 = .ok (.iconst 0, 1) := by decide +kernel
theorem dX9_quiet_1 : decode cX9_quiet 1 = .ok (.istore_n 1, 1) := by decide +kernel
theorem dX9_quiet_2 : decode cX9_quiet 2 = .ok (.iconst 0, 1) := by decide +kernel
theorem dX9_quiet_3 : decode cX9_quiet 3 = .ok (.istore_n 2, 1) := by decide +kernel
theorem dX9_quiet_4 : decode cX9_quiet 4 = .ok (.iload_n 2, 1) := by decide +kernel
theorem dX9_quiet_5 : decode cX9_quiet 5 = .ok (.bipush 8, 2) := by decide +kernel
theorem dX9_quiet_7 : decode cX9_quiet 7 = .ok (.if_icmp .ge 37, 3) := by decide +kernel
theorem dX9_quiet_10 : decode cX9_quiet 10 = .ok (.aload_n 0, 1) := by decide +kernel
theorem dX9_quiet_11 : decode cX9_quiet 11 = .ok (.getfield 42, 3) := by decide +kernel
theorem dX9_quiet_14 : decode cX9_quiet 14 = .ok (.getfield 139, 3) := by decide +kernel
theorem dX9_quiet_17 : decode cX9_quiet 17 = .ok (.getfield 162, 3) := by decide +kernel
theorem dX9_quiet_20 : decode cX9_quiet 20 = .ok (.iload_n 2, 1) := by decide +kernel
theorem dX9_quiet_21 : decode cX9_quiet 21 = .ok (.invokestatic 158, 3) := by decide +kernel
theorem dX9_quiet_24 : decode cX9_quiet 24 = .ok (.ifCond .eq 14, 3) := by decide +kernel
theorem dX9_quiet_27 : decode cX9_quiet 27 = .ok (.iload_n 1, 1) := by decide +kernel
theorem dX9_quiet_28 : decode cX9_quiet 28 = .ok (.aload_n 0, 1) := by decide +kernel
theorem dX9_quiet_29 : decode cX9_quiet 29 = .ok (.getfield 42, 3) := by decide +kernel
theorem dX9_quiet_32 : decode cX9_quiet 32 = .ok (.iload_n 2, 1) := by decide +kernel
theorem dX9_quiet_33 : decode cX9_quiet 33 = .ok (.invokevirtual 171, 3) := by decide +kernel
theorem dX9_quiet_36 : decode cX9_quiet 36 = .ok (.ior, 1) := by decide +kernel
theorem dX9_quiet_37 : decode cX9_quiet 37 = .ok (.istore_n 1, 1) := by decide +kernel
theorem dX9_quiet_38 : decode cX9_quiet 38 = .ok (.iinc 2 1, 3) := by decide +kernel
theorem dX9_quiet_41 : decode cX9_quiet 41 = .ok (.goto (-37), 3) := by decide +kernel
theorem dX9_quiet_44 : decode cX9_quiet 44 = .ok (.iload_n 1, 1) := by decide +kernel
theorem dX9_quiet_45 : decode cX9_quiet 45 = .ok (.iconst (-1), 1) := by decide +kernel
theorem dX9_quiet_46 : decode cX9_quiet 46 = .ok (.ixor, 1) := by decide +kernel
theorem dX9_quiet_47 : decode cX9_quiet 47 = .ok (.sipush 255, 3) := by decide +kernel
theorem dX9_quiet_50 : decode cX9_quiet 50 = .ok (.iand, 1) := by decide +kernel
theorem dX9_quiet_51 : decode cX9_quiet 51 = .ok (.ireturn, 1) := by decide +kernel
def lp_X9_quiet_4 (μ : Mem) : Nat → Int32 → Int32 → Option (Int32)
  | 0, _, _ => none
  | n + 1, x1, x2 => if 8 ≤ x2 then (some ((x1 ^^^ (-1)) &&& 255)) else ((f_X9_holds (μ 1 1 5) x2).bind fun (q3 : Int32) => if q3 = 0 then (lp_X9_quiet_4 μ n x1 (x2 + 1)) else ((f_X2_spies 0 μ x2).bind fun (q4 : Int32) => lp_X9_quiet_4 μ n (x1 ||| q4) (x2 + 1)))
def f_X9_quiet (μ : Mem) : Option (Int32) := lp_X9_quiet_4 μ 4096 0 0
set_option maxHeartbeats 4000000 in
set_option maxRecDepth 100000 in
theorem c_X9_quiet (G : GG) (l : Launch) (μ : Mem) : CR G l yX9_quiet (.code yX9_quiet cX9_quiet 3 (some .int)) 4 [.ref (gad G 0 0)] μ (f_X9_quiet μ) := by
  refine CR.of (own := "SaturdayKeep") (L0 := [some (.ref (gad G 0 0)), none, none]) rfl rfl rfl (Nat.le_of_ble_eq_true rfl) (fun C hl hC => ?_)
  subst hl
  delta f_X9_quiet
  refine aw_iconst (pc := 0) (v := 0) hC dX9_quiet_0 ic0 ?_
  refine aw_istore_n (pc := 1) (i := 1) hC dX9_quiet_1 rfl rfl (by decide) ?_
  refine aw_iconst (pc := 2) (v := 0) hC dX9_quiet_2 ic0 ?_
  refine aw_istore_n (pc := 3) (i := 2) hC dX9_quiet_3 rfl rfl (by decide) ?_
  have hL4 : ∀ (n : Nat) (x1 : Int32) (x2 : Int32), AW G C (qR G C 0 0 μ) 0 0 3 μ 4 [some (.ref (gad G 0 0)), some (.int x1), some (.int x2)] [] (lp_X9_quiet_4 μ n x1 x2) := by
    intro n
    induction n with
    | zero => intro x1 x2; exact aw_none
    | succ n ih =>
      intro x1 x2
      rw [lp_X9_quiet_4]
      refine aw_iload_n (pc := 4) (i := 2) hC dX9_quiet_4 rfl rfl ?_
      refine aw_bipush (pc := 5) (v := 8) hC dX9_quiet_5 bc8 ?_
      refine aw_icmp_ge (pc := 7) (tgt := 44) hC dX9_quiet_7 (by decide) (fun _ => ?_) (fun _ => ?_)
      · skip
        refine aw_iload_n (pc := 44) (i := 1) hC dX9_quiet_44 rfl rfl ?_
        refine aw_iconst (pc := 45) (v := (-1)) hC dX9_quiet_45 icm1 ?_
        refine aw_ixor (pc := 46) hC dX9_quiet_46 ?_
        refine aw_sipush (pc := 47) (v := 255) hC dX9_quiet_47 sc255 ?_
        refine aw_iand (pc := 50) hC dX9_quiet_50 ?_
        exact aw_iretR hC dX9_quiet_51
      · skip
        refine aw_aload_n (pc := 10) (i := 0) hC dX9_quiet_10 rfl rfl ?_
        refine aw_get (pc := 11) hC inX9 (v0 (j := 0) (by decide)) rfl rfl 4 (by decide) kw280 rfl rfl dX9_quiet_11 ?_
        refine aw_get (pc := 14) hC inX2 (vH (h := 0) (j := 0) (by decide) (by decide)) rfl rfl 0 (by decide) kw186 rfl rfl dX9_quiet_14 ?_
        refine aw_get (pc := 17) hC inX1 (vH (h := 0) (j := 1) (by decide) (by decide)) rfl rfl 5 (by decide) kw150 rfl rfl dX9_quiet_17 ?_
        refine aw_iload_n (pc := 20) (i := 2) hC dX9_quiet_20 rfl rfl ?_
        refine aw_callSR (pc := 21) (As := [.int (μ 1 1 5), .int x2]) hC ms_X9_holds kw415 (by decide) (c_X9_holds G C.2.1   μ (μ 1 1 5) x2) rfl (Nat.le_of_ble_eq_true rfl) dX9_quiet_21 (fun q3 => ?_)
        refine aw_if_eq (pc := 24) (tgt := 38) hC dX9_quiet_24 (by decide) (fun _ => ?_) (fun _ => ?_)
        · skip
          refine aw_iinc (pc := 38) (v := x2 + 1) hC dX9_quiet_38 rfl (congrArg (HAdd.hAdd _) ic1) rfl (by decide) ?_
          refine aw_goto (pc := 41) (tgt := 4) hC dX9_quiet_41 (by decide) ?_
          exact ih x1 (x2 + 1)
        · skip
          refine aw_iload_n (pc := 27) (i := 1) hC dX9_quiet_27 rfl rfl ?_
          refine aw_aload_n (pc := 28) (i := 0) hC dX9_quiet_28 rfl rfl ?_
          refine aw_get (pc := 29) hC inX9 (v0 (j := 0) (by decide)) rfl rfl 4 (by decide) kw280 rfl rfl dX9_quiet_29 ?_
          refine aw_iload_n (pc := 32) (i := 2) hC dX9_quiet_32 rfl rfl ?_
          refine aw_callVR (pc := 33) (As := [.int x2]) hC mb_X2_spies kw475 (by decide) (c_X2_spies G C.2.1 0 (by decide) μ x2) (vH (h := 0) (j := 0) (by decide) (by decide)) rfl rfl rfl (Nat.le_of_ble_eq_true rfl) dX9_quiet_33 (fun q4 => ?_)
          refine aw_ior (pc := 36) hC dX9_quiet_36 ?_
          refine aw_istore_n (pc := 37) (i := 1) hC dX9_quiet_37 rfl rfl (by decide) ?_
          refine aw_iinc (pc := 38) (v := x2 + 1) hC dX9_quiet_38 rfl (congrArg (HAdd.hAdd _) ic1) rfl (by decide) ?_
          refine aw_goto (pc := 41) (tgt := 4) hC dX9_quiet_41 (by decide) ?_
          exact ih (x1 ||| q4) (x2 + 1)
  exact hL4 4096 0 0
theorem dX9_isBetterBath_0 : decode cX9_isBetterBath 0 = .ok (.aload_n 0, 1) := by decide +kernel
theorem dX9_isBetterBath_1 : decode cX9_isBetterBath 1 = .ok (.getfield 42, 3) := by decide +kernel
theorem dX9_isBetterBath_4 : decode cX9_isBetterBath 4 = .ok (.iload_n 1, 1) := by decide +kernel
theorem dX9_isBetterBath_5 : decode cX9_isBetterBath 5 = .ok (.invokevirtual 199, 3) := by decide +kernel
theorem dX9_isBetterBath_8 : decode cX9_isBetterBath 8 = .ok (.istore_n 3, 1) := by decide +kernel
theorem dX9_isBetterBath_9 : decode cX9_isBetterBath 9 = .ok (.aload_n 0, 1) := by decide +kernel
theorem dX9_isBetterBath_10 : decode cX9_isBetterBath 10 = .ok (.getfield 42, 3) := by decide +kernel
theorem dX9_isBetterBath_13 : decode cX9_isBetterBath 13 = .ok (.iload_n 2, 1) := by decide +kernel
theorem dX9_isBetterBath_14 : decode cX9_isBetterBath 14 = .ok (.invokevirtual 199, 3) := by decide +kernel
theorem dX9_isBetterBath_17 : decode cX9_isBetterBath 17 = .ok (.istore 4, 2) := by decide +kernel
theorem dX9_isBetterBath_19 : decode cX9_isBetterBath 19 = .ok (.iload 4, 2) := by decide +kernel
theorem dX9_isBetterBath_21 : decode cX9_isBetterBath 21 = .ok (.invokestatic 317, 3) := by decide +kernel
theorem dX9_isBetterBath_24 : decode cX9_isBetterBath 24 = .ok (.iload_n 3, 1) := by decide +kernel
theorem dX9_isBetterBath_25 : decode cX9_isBetterBath 25 = .ok (.invokestatic 317, 3) := by decide +kernel
theorem dX9_isBetterBath_28 : decode cX9_isBetterBath 28 = .ok (.isub, 1) := by decide +kernel
theorem dX9_isBetterBath_29 : decode cX9_isBetterBath 29 = .ok (.istore 5, 2) := by decide +kernel
theorem dX9_isBetterBath_31 : decode cX9_isBetterBath 31 = .ok (.iload 5, 2) := by decide +kernel
theorem dX9_isBetterBath_33 : decode cX9_isBetterBath 33 = .ok (.ifCond .eq 14, 3) := by decide +kernel
theorem dX9_isBetterBath_36 : decode cX9_isBetterBath 36 = .ok (.iload 5, 2) := by decide +kernel
theorem dX9_isBetterBath_38 : decode cX9_isBetterBath 38 = .ok (.ifCond .le 7, 3) := by decide +kernel
theorem dX9_isBetterBath_41 : decode cX9_isBetterBath 41 = .ok (.iconst 1, 1) := by decide +kernel
theorem dX9_isBetterBath_42 : decode cX9_isBetterBath 42 = .ok (.goto 4, 3) := by decide +kernel
theorem dX9_isBetterBath_45 : decode cX9_isBetterBath 45 = .ok (.iconst 0, 1) := by decide +kernel
theorem dX9_isBetterBath_46 : decode cX9_isBetterBath 46 = .ok (.ireturn, 1) := by decide +kernel
theorem dX9_isBetterBath_47 : decode cX9_isBetterBath 47 = .ok (.aload_n 0, 1) := by decide +kernel
theorem dX9_isBetterBath_48 : decode cX9_isBetterBath 48 = .ok (.getfield 42, 3) := by decide +kernel
theorem dX9_isBetterBath_51 : decode cX9_isBetterBath 51 = .ok (.getfield 139, 3) := by decide +kernel
theorem dX9_isBetterBath_54 : decode cX9_isBetterBath 54 = .ok (.iload_n 3, 1) := by decide +kernel
theorem dX9_isBetterBath_55 : decode cX9_isBetterBath 55 = .ok (.invokevirtual 331, 3) := by decide +kernel
theorem dX9_isBetterBath_58 : decode cX9_isBetterBath 58 = .ok (.aload_n 0, 1) := by decide +kernel
theorem dX9_isBetterBath_59 : decode cX9_isBetterBath 59 = .ok (.getfield 42, 3) := by decide +kernel
theorem dX9_isBetterBath_62 : decode cX9_isBetterBath 62 = .ok (.getfield 139, 3) := by decide +kernel
theorem dX9_isBetterBath_65 : decode cX9_isBetterBath 65 = .ok (.iload 4, 2) := by decide +kernel
theorem dX9_isBetterBath_67 : decode cX9_isBetterBath 67 = .ok (.invokevirtual 331, 3) := by decide +kernel
theorem dX9_isBetterBath_70 : decode cX9_isBetterBath 70 = .ok (.if_icmp .ge 7, 3) := by decide +kernel
theorem dX9_isBetterBath_73 : decode cX9_isBetterBath 73 = .ok (.iconst 1, 1) := by decide +kernel
theorem dX9_isBetterBath_74 : decode cX9_isBetterBath 74 = .ok (.goto 4, 3) := by decide +kernel
theorem dX9_isBetterBath_77 : decode cX9_isBetterBath 77 = .ok (.iconst 0, 1) := by decide +kernel
theorem dX9_isBetterBath_78 : decode cX9_isBetterBath 78 = .ok (.ireturn, 1) := by decide +kernel
def f_X9_isBetterBath (μ : Mem) (a1 : Int32) (a2 : Int32) : Option (Int32) := (f_X2_watchers 0 μ a1).bind fun (q1 : Int32) => (f_X2_watchers 0 μ a2).bind fun (q2 : Int32) => (f_J6_bitCount_0f7a4 q2).bind fun (q3 : Int32) => (f_J6_bitCount_0f7a4 q1).bind fun (q4 : Int32) => if (q3 - q4) = 0 then ((f_X1_riskOf 0 μ q1).bind fun (q5 : Int32) => (f_X1_riskOf 0 μ q2).bind fun (q6 : Int32) => if q6 ≤ q5 then (some 0) else (some 1)) else (if (q3 - q4) ≤ 0 then (some 0) else (some 1))
set_option maxHeartbeats 4000000 in
set_option maxRecDepth 100000 in
theorem c_X9_isBetterBath (G : GG) (l : Launch) (μ : Mem) (a1 : Int32) (a2 : Int32) : CR G l yX9_isBetterBath (.code yX9_isBetterBath cX9_isBetterBath 6 (some .boolean)) 5 [.ref (gad G 0 0), .int a1, .int a2] μ (f_X9_isBetterBath μ a1 a2) := by
  refine CR.of (own := "SaturdayKeep") (L0 := [some (.ref (gad G 0 0)), some (.int a1), some (.int a2), none, none, none]) rfl rfl rfl (Nat.le_of_ble_eq_true rfl) (fun C hl hC => ?_)
  subst hl
  delta f_X9_isBetterBath
  refine aw_aload_n (pc := 0) (i := 0) hC dX9_isBetterBath_0 rfl rfl ?_
  refine aw_get (pc := 1) hC inX9 (v0 (j := 0) (by decide)) rfl rfl 4 (by decide) kw280 rfl rfl dX9_isBetterBath_1 ?_
  refine aw_iload_n (pc := 4) (i := 1) hC dX9_isBetterBath_4 rfl rfl ?_
  refine aw_callVR (pc := 5) (As := [.int a1]) hC mb_X2_watchers kw383 (by decide) (c_X2_watchers G C.2.1 0 (by decide) μ a1) (vH (h := 0) (j := 0) (by decide) (by decide)) rfl rfl rfl (Nat.le_of_ble_eq_true rfl) dX9_isBetterBath_5 (fun q1 => ?_)
  refine aw_istore_n (pc := 8) (i := 3) hC dX9_isBetterBath_8 rfl rfl (by decide) ?_
  refine aw_aload_n (pc := 9) (i := 0) hC dX9_isBetterBath_9 rfl rfl ?_
  refine aw_get (pc := 10) hC inX9 (v0 (j := 0) (by decide)) rfl rfl 4 (by decide) kw280 rfl rfl dX9_isBetterBath_10 ?_
  refine aw_iload_n (pc := 13) (i := 2) hC dX9_isBetterBath_13 rfl rfl ?_
  refine aw_callVR (pc := 14) (As := [.int a2]) hC mb_X2_watchers kw383 (by decide) (c_X2_watchers G C.2.1 0 (by decide) μ a2) (vH (h := 0) (j := 0) (by decide) (by decide)) rfl rfl rfl (Nat.le_of_ble_eq_true rfl) dX9_isBetterBath_14 (fun q2 => ?_)
  refine aw_istore (pc := 17) hC dX9_isBetterBath_17 rfl (by decide) ?_
  refine aw_iload (pc := 19) hC dX9_isBetterBath_19 rfl ?_
  refine aw_callSR (pc := 21) (As := [.int q2]) hC ms_J6_bitCount_0f7a4 kw453 (by decide) (c_J6_bitCount_0f7a4 G C.2.1   μ q2) rfl (Nat.le_of_ble_eq_true rfl) dX9_isBetterBath_21 (fun q3 => ?_)
  refine aw_iload_n (pc := 24) (i := 3) hC dX9_isBetterBath_24 rfl rfl ?_
  refine aw_callSR (pc := 25) (As := [.int q1]) hC ms_J6_bitCount_0f7a4 kw453 (by decide) (c_J6_bitCount_0f7a4 G C.2.1   μ q1) rfl (Nat.le_of_ble_eq_true rfl) dX9_isBetterBath_25 (fun q4 => ?_)
  refine aw_isub (pc := 28) hC dX9_isBetterBath_28 ?_
  refine aw_istore (pc := 29) hC dX9_isBetterBath_29 rfl (by decide) ?_
  refine aw_iload (pc := 31) hC dX9_isBetterBath_31 rfl ?_
  refine aw_if_eq (pc := 33) (tgt := 47) hC dX9_isBetterBath_33 (by decide) (fun _ => ?_) (fun _ => ?_)
  · skip
    refine aw_aload_n (pc := 47) (i := 0) hC dX9_isBetterBath_47 rfl rfl ?_
    refine aw_get (pc := 48) hC inX9 (v0 (j := 0) (by decide)) rfl rfl 4 (by decide) kw280 rfl rfl dX9_isBetterBath_48 ?_
    refine aw_get (pc := 51) hC inX2 (vH (h := 0) (j := 0) (by decide) (by decide)) rfl rfl 0 (by decide) kw186 rfl rfl dX9_isBetterBath_51 ?_
    refine aw_iload_n (pc := 54) (i := 3) hC dX9_isBetterBath_54 rfl rfl ?_
    refine aw_callVR (pc := 55) (As := [.int q1]) hC mb_X1_riskOf kw484 (by decide) (c_X1_riskOf G C.2.1 0 (by decide) μ q1) (vH (h := 0) (j := 1) (by decide) (by decide)) rfl rfl rfl (Nat.le_of_ble_eq_true rfl) dX9_isBetterBath_55 (fun q5 => ?_)
    refine aw_aload_n (pc := 58) (i := 0) hC dX9_isBetterBath_58 rfl rfl ?_
    refine aw_get (pc := 59) hC inX9 (v0 (j := 0) (by decide)) rfl rfl 4 (by decide) kw280 rfl rfl dX9_isBetterBath_59 ?_
    refine aw_get (pc := 62) hC inX2 (vH (h := 0) (j := 0) (by decide) (by decide)) rfl rfl 0 (by decide) kw186 rfl rfl dX9_isBetterBath_62 ?_
    refine aw_iload (pc := 65) hC dX9_isBetterBath_65 rfl ?_
    refine aw_callVR (pc := 67) (As := [.int q2]) hC mb_X1_riskOf kw484 (by decide) (c_X1_riskOf G C.2.1 0 (by decide) μ q2) (vH (h := 0) (j := 1) (by decide) (by decide)) rfl rfl rfl (Nat.le_of_ble_eq_true rfl) dX9_isBetterBath_67 (fun q6 => ?_)
    refine aw_icmp_ge (pc := 70) (tgt := 77) hC dX9_isBetterBath_70 (by decide) (fun _ => ?_) (fun _ => ?_)
    · skip
      refine aw_iconst (pc := 77) (v := 0) hC dX9_isBetterBath_77 ic0 ?_
      exact aw_zret0R hC dX9_isBetterBath_78
    · skip
      refine aw_iconst (pc := 73) (v := 1) hC dX9_isBetterBath_73 ic1 ?_
      refine aw_goto (pc := 74) (tgt := 78) hC dX9_isBetterBath_74 (by decide) ?_
      exact aw_zret1R hC dX9_isBetterBath_78
  · skip
    refine aw_iload (pc := 36) hC dX9_isBetterBath_36 rfl ?_
    refine aw_if_le (pc := 38) (tgt := 45) hC dX9_isBetterBath_38 (by decide) (fun _ => ?_) (fun _ => ?_)
    · skip
      refine aw_iconst (pc := 45) (v := 0) hC dX9_isBetterBath_45 ic0 ?_
      exact aw_zret0R hC dX9_isBetterBath_46
    · skip
      refine aw_iconst (pc := 41) (v := 1) hC dX9_isBetterBath_41 ic1 ?_
      refine aw_goto (pc := 42) (tgt := 46) hC dX9_isBetterBath_42 (by decide) ?_
      exact aw_zret1R hC dX9_isBetterBath_46
theorem dX9_best_0 : decode cX9_best 0 = .ok (.iconst 0, 1) := by decide +kernel
theorem dX9_best_1 : decode cX9_best 1 = .ok (.istore_n 1, 1) := by decide +kernel
theorem dX9_best_2 : decode cX9_best 2 = .ok (.iconst 1, 1) := by decide +kernel
theorem dX9_best_3 : decode cX9_best 3 = .ok (.istore_n 2, 1) := by decide +kernel
theorem dX9_best_4 : decode cX9_best 4 = .ok (.iload_n 2, 1) := by decide +kernel
theorem dX9_best_5 : decode cX9_best 5 = .ok (.bipush 8, 2) := by decide +kernel
theorem dX9_best_7 : decode cX9_best 7 = .ok (.if_icmp .ge 20, 3) := by decide +kernel
theorem dX9_best_10 : decode cX9_best 10 = .ok (.aload_n 0, 1) := by decide +kernel
theorem dX9_best_11 : decode cX9_best 11 = .ok (.iload_n 2, 1) := by decide +kernel
theorem dX9_best_12 : decode cX9_best 12 = .ok (.iload_n 1, 1) := by decide +kernel
theorem dX9_best_13 : decode cX9_best 13 = .ok (.invokevirtual 328, 3) := by decide +kernel
theorem dX9_best_16 : decode cX9_best 16 = .ok (.ifCond .eq 5, 3) := by decide +kernel
theorem dX9_best_19 : decode cX9_best 19 = .ok (.iload_n 2, 1) := by decide +kernel
theorem dX9_best_20 : decode cX9_best 20 = .ok (.istore_n 1, 1) := by decide +kernel
theorem dX9_best_21 : decode cX9_best 21 = .ok (.iinc 2 1, 3) := by decide +kernel
theorem dX9_best_24 : decode cX9_best 24 = .ok (.goto (-20), 3) := by decide +kernel
theorem dX9_best_27 : decode cX9_best 27 = .ok (.iload_n 1, 1) := by decide +kernel
theorem dX9_best_28 : decode cX9_best 28 = .ok (.ireturn, 1) := by decide +kernel
def lp_X9_best_4 (μ : Mem) : Nat → Int32 → Int32 → Option (Int32)
  | 0, _, _ => none
  | n + 1, x1, x2 => if 8 ≤ x2 then (some x1) else ((f_X9_isBetterBath μ x2 x1).bind fun (q3 : Int32) => if q3 = 0 then (lp_X9_best_4 μ n x1 (x2 + 1)) else (lp_X9_best_4 μ n x2 (x2 + 1)))
def f_X9_best (μ : Mem) : Option (Int32) := lp_X9_best_4 μ 4096 0 1
set_option maxHeartbeats 4000000 in
set_option maxRecDepth 100000 in
theorem c_X9_best (G : GG) (l : Launch) (μ : Mem) : CR G l yX9_best (.code yX9_best cX9_best 3 (some .int)) 6 [.ref (gad G 0 0)] μ (f_X9_best μ) := by
  refine CR.of (own := "SaturdayKeep") (L0 := [some (.ref (gad G 0 0)), none, none]) rfl rfl rfl (Nat.le_of_ble_eq_true rfl) (fun C hl hC => ?_)
  subst hl
  delta f_X9_best
  refine aw_iconst (pc := 0) (v := 0) hC dX9_best_0 ic0 ?_
  refine aw_istore_n (pc := 1) (i := 1) hC dX9_best_1 rfl rfl (by decide) ?_
  refine aw_iconst (pc := 2) (v := 1) hC dX9_best_2 ic1 ?_
  refine aw_istore_n (pc := 3) (i := 2) hC dX9_best_3 rfl rfl (by decide) ?_
  have hL4 : ∀ (n : Nat) (x1 : Int32) (x2 : Int32), AW G C (qR G C 0 0 μ) 0 0 3 μ 4 [some (.ref (gad G 0 0)), some (.int x1), some (.int x2)] [] (lp_X9_best_4 μ n x1 x2) := by
    intro n
    induction n with
    | zero => intro x1 x2; exact aw_none
    | succ n ih =>
      intro x1 x2
      rw [lp_X9_best_4]
      refine aw_iload_n (pc := 4) (i := 2) hC dX9_best_4 rfl rfl ?_
      refine aw_bipush (pc := 5) (v := 8) hC dX9_best_5 bc8 ?_
      refine aw_icmp_ge (pc := 7) (tgt := 27) hC dX9_best_7 (by decide) (fun _ => ?_) (fun _ => ?_)
      · skip
        refine aw_iload_n (pc := 27) (i := 1) hC dX9_best_27 rfl rfl ?_
        exact aw_iretR hC dX9_best_28
      · skip
        refine aw_aload_n (pc := 10) (i := 0) hC dX9_best_10 rfl rfl ?_
        refine aw_iload_n (pc := 11) (i := 2) hC dX9_best_11 rfl rfl ?_
        refine aw_iload_n (pc := 12) (i := 1) hC dX9_best_12 rfl rfl ?_
        refine aw_callVR (pc := 13) (As := [.int x2, .int x1]) hC mb_X9_isBetterBath kw480 (by decide) (c_X9_isBetterBath G C.2.1   μ x2 x1) (v0 (j := 0) (by decide)) rfl rfl rfl (Nat.le_of_ble_eq_true rfl) dX9_best_13 (fun q3 => ?_)
        refine aw_if_eq (pc := 16) (tgt := 21) hC dX9_best_16 (by decide) (fun _ => ?_) (fun _ => ?_)
        · skip
          refine aw_iinc (pc := 21) (v := x2 + 1) hC dX9_best_21 rfl (congrArg (HAdd.hAdd _) ic1) rfl (by decide) ?_
          refine aw_goto (pc := 24) (tgt := 4) hC dX9_best_24 (by decide) ?_
          exact ih x1 (x2 + 1)
        · skip
          refine aw_iload_n (pc := 19) (i := 2) hC dX9_best_19 rfl rfl ?_
          refine aw_istore_n (pc := 20) (i := 1) hC dX9_best_20 rfl rfl (by decide) ?_
          refine aw_iinc (pc := 21) (v := x2 + 1) hC dX9_best_21 rfl (congrArg (HAdd.hAdd _) ic1) rfl (by decide) ?_
          refine aw_goto (pc := 24) (tgt := 4) hC dX9_best_24 (by decide) ?_
          exact ih x2 (x2 + 1)
  exact hL4 4096 0 1
theorem dX9_locked_0 : decode cX9_locked 0 = .ok (.iconst 0, 1) := by decide +kernel
theorem dX9_locked_1 : decode cX9_locked 1 = .ok (.istore_n 1, 1) := by decide +kernel
theorem dX9_locked_2 : decode cX9_locked 2 = .ok (.iconst 0, 1) := by decide +kernel
theorem dX9_locked_3 : decode cX9_locked 3 = .ok (.istore_n 2, 1) := by decide +kernel
theorem dX9_locked_4 : decode cX9_locked 4 = .ok (.iload_n 2, 1) := by decide +kernel
theorem dX9_locked_5 : decode cX9_locked 5 = .ok (.bipush 8, 2) := by decide +kernel
theorem dX9_locked_7 : decode cX9_locked 7 = .ok (.if_icmp .ge 68, 3) := by decide +kernel
theorem dX9_locked_10 : decode cX9_locked 10 = .ok (.aload_n 0, 1) := by decide +kernel
theorem dX9_locked_11 : decode cX9_locked 11 = .ok (.getfield 42, 3) := by decide +kernel
theorem dX9_locked_14 : decode cX9_locked 14 = .ok (.aload_n 0, 1) := by decide +kernel
theorem dX9_locked_15 : decode cX9_locked 15 = .ok (.getfield 42, 3) := by decide +kernel
theorem dX9_locked_18 : decode cX9_locked 18 = .ok (.getfield 239, 3) := by decide +kernel
theorem dX9_locked_21 : decode cX9_locked 21 = .ok (.invokevirtual 199, 3) := by decide +kernel
theorem dX9_locked_24 : decode cX9_locked 24 = .ok (.iload_n 2, 1) := by decide +kernel
theorem dX9_locked_25 : decode cX9_locked 25 = .ok (.invokestatic 158, 3) := by decide +kernel
theorem dX9_locked_28 : decode cX9_locked 28 = .ok (.ifCond .eq 41, 3) := by decide +kernel
theorem dX9_locked_31 : decode cX9_locked 31 = .ok (.aload_n 0, 1) := by decide +kernel
theorem dX9_locked_32 : decode cX9_locked 32 = .ok (.getfield 42, 3) := by decide +kernel
theorem dX9_locked_35 : decode cX9_locked 35 = .ok (.aload_n 0, 1) := by decide +kernel
theorem dX9_locked_36 : decode cX9_locked 36 = .ok (.getfield 42, 3) := by decide +kernel
theorem dX9_locked_39 : decode cX9_locked 39 = .ok (.getfield 139, 3) := by decide +kernel
theorem dX9_locked_42 : decode cX9_locked 42 = .ok (.iload_n 2, 1) := by decide +kernel
theorem dX9_locked_43 : decode cX9_locked 43 = .ok (.invokevirtual 143, 3) := by decide +kernel
theorem dX9_locked_46 : decode cX9_locked 46 = .ok (.iconst 0, 1) := by decide +kernel
theorem dX9_locked_47 : decode cX9_locked 47 = .ok (.invokevirtual 334, 3) := by decide +kernel
theorem dX9_locked_50 : decode cX9_locked 50 = .ok (.aload_n 0, 1) := by decide +kernel
theorem dX9_locked_51 : decode cX9_locked 51 = .ok (.getfield 42, 3) := by decide +kernel
theorem dX9_locked_54 : decode cX9_locked 54 = .ok (.getfield 239, 3) := by decide +kernel
theorem dX9_locked_57 : decode cX9_locked 57 = .ok (.invokestatic 158, 3) := by decide +kernel
theorem dX9_locked_60 : decode cX9_locked 60 = .ok (.ifCond .ne 9, 3) := by decide +kernel
theorem dX9_locked_63 : decode cX9_locked 63 = .ok (.iload_n 1, 1) := by decide +kernel
theorem dX9_locked_64 : decode cX9_locked 64 = .ok (.iconst 1, 1) := by decide +kernel
theorem dX9_locked_65 : decode cX9_locked 65 = .ok (.iload_n 2, 1) := by decide +kernel
theorem dX9_locked_66 : decode cX9_locked 66 = .ok (.ishl, 1) := by decide +kernel
theorem dX9_locked_67 : decode cX9_locked 67 = .ok (.ior, 1) := by decide +kernel
theorem dX9_locked_68 : decode cX9_locked 68 = .ok (.istore_n 1, 1) := by decide +kernel
theorem dX9_locked_69 : decode cX9_locked 69 = .ok (.iinc 2 1, 3) := by decide +kernel
theorem dX9_locked_72 : decode cX9_locked 72 = .ok (.goto (-68), 3) := by decide +kernel
theorem dX9_locked_75 : decode cX9_locked 75 = .ok (.iload_n 1, 1) := by decide +kernel
theorem dX9_locked_76 : decode cX9_locked 76 = .ok (.ireturn, 1) := by decide +kernel
def lp_X9_locked_4 (μ : Mem) : Nat → Int32 → Int32 → Option (Int32)
  | 0, _, _ => none
  | n + 1, x1, x2 => if 8 ≤ x2 then (some x1) else ((f_X2_watchers 0 μ (μ 1 0 8)).bind fun (q3 : Int32) => (f_X9_holds q3 x2).bind fun (q4 : Int32) => if q4 = 0 then (lp_X9_locked_4 μ n x1 (x2 + 1)) else ((f_X1_roomOf 0 μ x2).bind fun (q5 : Int32) => (f_X2_sight 0 μ q5 0).bind fun (q6 : Int32) => (f_X9_holds q6 (μ 1 0 8)).bind fun (q7 : Int32) => if q7 = 0 then (lp_X9_locked_4 μ n (x1 ||| (jshl 1 x2)) (x2 + 1)) else (lp_X9_locked_4 μ n x1 (x2 + 1))))
def f_X9_locked (μ : Mem) : Option (Int32) := lp_X9_locked_4 μ 4096 0 0
set_option maxHeartbeats 4000000 in
set_option maxRecDepth 100000 in
theorem c_X9_locked (G : GG) (l : Launch) (μ : Mem) : CR G l yX9_locked (.code yX9_locked cX9_locked 3 (some .int)) 5 [.ref (gad G 0 0)] μ (f_X9_locked μ) := by
  refine CR.of (own := "SaturdayKeep") (L0 := [some (.ref (gad G 0 0)), none, none]) rfl rfl rfl (Nat.le_of_ble_eq_true rfl) (fun C hl hC => ?_)
  subst hl
  delta f_X9_locked
  refine aw_iconst (pc := 0) (v := 0) hC dX9_locked_0 ic0 ?_
  refine aw_istore_n (pc := 1) (i := 1) hC dX9_locked_1 rfl rfl (by decide) ?_
  refine aw_iconst (pc := 2) (v := 0) hC dX9_locked_2 ic0 ?_
  refine aw_istore_n (pc := 3) (i := 2) hC dX9_locked_3 rfl rfl (by decide) ?_
  have hL4 : ∀ (n : Nat) (x1 : Int32) (x2 : Int32), AW G C (qR G C 0 0 μ) 0 0 3 μ 4 [some (.ref (gad G 0 0)), some (.int x1), some (.int x2)] [] (lp_X9_locked_4 μ n x1 x2) := by
    intro n
    induction n with
    | zero => intro x1 x2; exact aw_none
    | succ n ih =>
      intro x1 x2
      rw [lp_X9_locked_4]
      refine aw_iload_n (pc := 4) (i := 2) hC dX9_locked_4 rfl rfl ?_
      refine aw_bipush (pc := 5) (v := 8) hC dX9_locked_5 bc8 ?_
      refine aw_icmp_ge (pc := 7) (tgt := 75) hC dX9_locked_7 (by decide) (fun _ => ?_) (fun _ => ?_)
      · skip
        refine aw_iload_n (pc := 75) (i := 1) hC dX9_locked_75 rfl rfl ?_
        exact aw_iretR hC dX9_locked_76
      · skip
        refine aw_aload_n (pc := 10) (i := 0) hC dX9_locked_10 rfl rfl ?_
        refine aw_get (pc := 11) hC inX9 (v0 (j := 0) (by decide)) rfl rfl 4 (by decide) kw280 rfl rfl dX9_locked_11 ?_
        refine aw_aload_n (pc := 14) (i := 0) hC dX9_locked_14 rfl rfl ?_
        refine aw_get (pc := 15) hC inX9 (v0 (j := 0) (by decide)) rfl rfl 4 (by decide) kw280 rfl rfl dX9_locked_15 ?_
        refine aw_get (pc := 18) hC inX2 (vH (h := 0) (j := 0) (by decide) (by decide)) rfl rfl 8 (by decide) kw200 rfl rfl dX9_locked_18 ?_
        refine aw_callVR (pc := 21) (As := [.int (μ 1 0 8)]) hC mb_X2_watchers kw383 (by decide) (c_X2_watchers G C.2.1 0 (by decide) μ (μ 1 0 8)) (vH (h := 0) (j := 0) (by decide) (by decide)) rfl rfl rfl (Nat.le_of_ble_eq_true rfl) dX9_locked_21 (fun q3 => ?_)
        refine aw_iload_n (pc := 24) (i := 2) hC dX9_locked_24 rfl rfl ?_
        refine aw_callSR (pc := 25) (As := [.int q3, .int x2]) hC ms_X9_holds kw415 (by decide) (c_X9_holds G C.2.1   μ q3 x2) rfl (Nat.le_of_ble_eq_true rfl) dX9_locked_25 (fun q4 => ?_)
        refine aw_if_eq (pc := 28) (tgt := 69) hC dX9_locked_28 (by decide) (fun _ => ?_) (fun _ => ?_)
        · skip
          refine aw_iinc (pc := 69) (v := x2 + 1) hC dX9_locked_69 rfl (congrArg (HAdd.hAdd _) ic1) rfl (by decide) ?_
          refine aw_goto (pc := 72) (tgt := 4) hC dX9_locked_72 (by decide) ?_
          exact ih x1 (x2 + 1)
        · skip
          refine aw_aload_n (pc := 31) (i := 0) hC dX9_locked_31 rfl rfl ?_
          refine aw_get (pc := 32) hC inX9 (v0 (j := 0) (by decide)) rfl rfl 4 (by decide) kw280 rfl rfl dX9_locked_32 ?_
          refine aw_aload_n (pc := 35) (i := 0) hC dX9_locked_35 rfl rfl ?_
          refine aw_get (pc := 36) hC inX9 (v0 (j := 0) (by decide)) rfl rfl 4 (by decide) kw280 rfl rfl dX9_locked_36 ?_
          refine aw_get (pc := 39) hC inX2 (vH (h := 0) (j := 0) (by decide) (by decide)) rfl rfl 0 (by decide) kw186 rfl rfl dX9_locked_39 ?_
          refine aw_iload_n (pc := 42) (i := 2) hC dX9_locked_42 rfl rfl ?_
          refine aw_callVR (pc := 43) (As := [.int x2]) hC mb_X1_roomOf kw493 (by decide) (c_X1_roomOf G C.2.1 0 (by decide) μ x2) (vH (h := 0) (j := 1) (by decide) (by decide)) rfl rfl rfl (Nat.le_of_ble_eq_true rfl) dX9_locked_43 (fun q5 => ?_)
          refine aw_iconst (pc := 46) (v := 0) hC dX9_locked_46 ic0 ?_
          refine aw_callVR (pc := 47) (As := [.int q5, .int 0]) hC mb_X2_sight kw494 (by decide) (c_X2_sight G C.2.1 0 (by decide) μ q5 0) (vH (h := 0) (j := 0) (by decide) (by decide)) rfl rfl rfl (Nat.le_of_ble_eq_true rfl) dX9_locked_47 (fun q6 => ?_)
          refine aw_aload_n (pc := 50) (i := 0) hC dX9_locked_50 rfl rfl ?_
          refine aw_get (pc := 51) hC inX9 (v0 (j := 0) (by decide)) rfl rfl 4 (by decide) kw280 rfl rfl dX9_locked_51 ?_
          refine aw_get (pc := 54) hC inX2 (vH (h := 0) (j := 0) (by decide) (by decide)) rfl rfl 8 (by decide) kw200 rfl rfl dX9_locked_54 ?_
          refine aw_callSR (pc := 57) (As := [.int q6, .int (μ 1 0 8)]) hC ms_X9_holds kw415 (by decide) (c_X9_holds G C.2.1   μ q6 (μ 1 0 8)) rfl (Nat.le_of_ble_eq_true rfl) dX9_locked_57 (fun q7 => ?_)
          refine aw_if_ne (pc := 60) (tgt := 69) hC dX9_locked_60 (by decide) (fun _ => ?_) (fun _ => ?_)
          · skip
            refine aw_iload_n (pc := 63) (i := 1) hC dX9_locked_63 rfl rfl ?_
            refine aw_iconst (pc := 64) (v := 1) hC dX9_locked_64 ic1 ?_
            refine aw_iload_n (pc := 65) (i := 2) hC dX9_locked_65 rfl rfl ?_
            refine aw_ishl (pc := 66) hC dX9_locked_66 ?_
            refine aw_ior (pc := 67) hC dX9_locked_67 ?_
            refine aw_istore_n (pc := 68) (i := 1) hC dX9_locked_68 rfl rfl (by decide) ?_
            refine aw_iinc (pc := 69) (v := x2 + 1) hC dX9_locked_69 rfl (congrArg (HAdd.hAdd _) ic1) rfl (by decide) ?_
            refine aw_goto (pc := 72) (tgt := 4) hC dX9_locked_72 (by decide) ?_
            exact ih (x1 ||| (jshl 1 x2)) (x2 + 1)
          · skip
            refine aw_iinc (pc := 69) (v := x2 + 1) hC dX9_locked_69 rfl (congrArg (HAdd.hAdd _) ic1) rfl (by decide) ?_
            refine aw_goto (pc := 72) (tgt := 4) hC dX9_locked_72 (by decide) ?_
            exact ih x1 (x2 + 1)
  exact hL4 4096 0 0
theorem dX9_mutual_0 : decode cX9_mutual 0 = .ok (.iconst 0, 1) := by decide +kernel
theorem dX9_mutual_1 : decode cX9_mutual 1 = .ok (.istore_n 1, 1) := by decide +kernel
theorem dX9_mutual_2 : decode cX9_mutual 2 = .ok (.iconst 0, 1) := by decide +kernel
theorem dX9_mutual_3 : decode cX9_mutual 3 = .ok (.istore_n 2, 1) := by decide +kernel
theorem dX9_mutual_4 : decode cX9_mutual 4 = .ok (.iload_n 2, 1) := by decide +kernel
theorem dX9_mutual_5 : decode cX9_mutual 5 = .ok (.bipush 8, 2) := by decide +kernel
theorem dX9_mutual_7 : decode cX9_mutual 7 = .ok (.if_icmp .ge 112, 3) := by decide +kernel
theorem dX9_mutual_10 : decode cX9_mutual 10 = .ok (.iload_n 2, 1) := by decide +kernel
theorem dX9_mutual_11 : decode cX9_mutual 11 = .ok (.iconst 1, 1) := by decide +kernel
theorem dX9_mutual_12 : decode cX9_mutual 12 = .ok (.iadd, 1) := by decide +kernel
theorem dX9_mutual_13 : decode cX9_mutual 13 = .ok (.istore_n 3, 1) := by decide +kernel
theorem dX9_mutual_14 : decode cX9_mutual 14 = .ok (.iload_n 3, 1) := by decide +kernel
theorem dX9_mutual_15 : decode cX9_mutual 15 = .ok (.bipush 8, 2) := by decide +kernel
theorem dX9_mutual_17 : decode cX9_mutual 17 = .ok (.if_icmp .ge 96, 3) := by decide +kernel
theorem dX9_mutual_20 : decode cX9_mutual 20 = .ok (.aload_n 0, 1) := by decide +kernel
theorem dX9_mutual_21 : decode cX9_mutual 21 = .ok (.getfield 42, 3) := by decide +kernel
theorem dX9_mutual_24 : decode cX9_mutual 24 = .ok (.getfield 139, 3) := by decide +kernel
theorem dX9_mutual_27 : decode cX9_mutual 27 = .ok (.getfield 162, 3) := by decide +kernel
theorem dX9_mutual_30 : decode cX9_mutual 30 = .ok (.iload_n 2, 1) := by decide +kernel
theorem dX9_mutual_31 : decode cX9_mutual 31 = .ok (.invokestatic 158, 3) := by decide +kernel
theorem dX9_mutual_34 : decode cX9_mutual 34 = .ok (.ifCond .eq 73, 3) := by decide +kernel
theorem dX9_mutual_37 : decode cX9_mutual 37 = .ok (.aload_n 0, 1) := by decide +kernel
theorem dX9_mutual_38 : decode cX9_mutual 38 = .ok (.getfield 42, 3) := by decide +kernel
theorem dX9_mutual_41 : decode cX9_mutual 41 = .ok (.getfield 139, 3) := by decide +kernel
theorem dX9_mutual_44 : decode cX9_mutual 44 = .ok (.getfield 162, 3) := by decide +kernel
theorem dX9_mutual_47 : decode cX9_mutual 47 = .ok (.iload_n 3, 1) := by decide +kernel
theorem dX9_mutual_48 : decode cX9_mutual 48 = .ok (.invokestatic 158, 3) := by decide +kernel
theorem dX9_mutual_51 : decode cX9_mutual 51 = .ok (.ifCond .eq 56, 3) := by decide +kernel
theorem dX9_mutual_54 : decode cX9_mutual 54 = .ok (.aload_n 0, 1) := by decide +kernel
theorem dX9_mutual_55 : decode cX9_mutual 55 = .ok (.getfield 42, 3) := by decide +kernel
theorem dX9_mutual_58 : decode cX9_mutual 58 = .ok (.iload_n 2, 1) := by decide +kernel
theorem dX9_mutual_59 : decode cX9_mutual 59 = .ok (.invokevirtual 171, 3) := by decide +kernel
theorem dX9_mutual_62 : decode cX9_mutual 62 = .ok (.aload_n 0, 1) := by decide +kernel
theorem dX9_mutual_63 : decode cX9_mutual 63 = .ok (.getfield 42, 3) := by decide +kernel
theorem dX9_mutual_66 : decode cX9_mutual 66 = .ok (.getfield 139, 3) := by decide +kernel
theorem dX9_mutual_69 : decode cX9_mutual 69 = .ok (.iload_n 3, 1) := by decide +kernel
theorem dX9_mutual_70 : decode cX9_mutual 70 = .ok (.invokevirtual 143, 3) := by decide +kernel
theorem dX9_mutual_73 : decode cX9_mutual 73 = .ok (.invokestatic 158, 3) := by decide +kernel
theorem dX9_mutual_76 : decode cX9_mutual 76 = .ok (.ifCond .eq 31, 3) := by decide +kernel
theorem dX9_mutual_79 : decode cX9_mutual 79 = .ok (.aload_n 0, 1) := by decide +kernel
theorem dX9_mutual_80 : decode cX9_mutual 80 = .ok (.getfield 42, 3) := by decide +kernel
theorem dX9_mutual_83 : decode cX9_mutual 83 = .ok (.iload_n 3, 1) := by decide +kernel
theorem dX9_mutual_84 : decode cX9_mutual 84 = .ok (.invokevirtual 171, 3) := by decide +kernel
theorem dX9_mutual_87 : decode cX9_mutual 87 = .ok (.aload_n 0, 1) := by decide +kernel
theorem dX9_mutual_88 : decode cX9_mutual 88 = .ok (.getfield 42, 3) := by decide +kernel
theorem dX9_mutual_91 : decode cX9_mutual 91 = .ok (.getfield 139, 3) := by decide +kernel
theorem dX9_mutual_94 : decode cX9_mutual 94 = .ok (.iload_n 2, 1) := by decide +kernel
theorem dX9_mutual_95 : decode cX9_mutual 95 = .ok (.invokevirtual 143, 3) := by decide +kernel
theorem dX9_mutual_98 : decode cX9_mutual 98 = .ok (.invokestatic 158, 3) := by decide +kernel
theorem dX9_mutual_101 : decode cX9_mutual 101 = .ok (.ifCond .eq 6, 3) := by decide +kernel
theorem dX9_mutual_104 : decode cX9_mutual 104 = .ok (.iinc 1 1, 3) := by decide +kernel
theorem dX9_mutual_107 : decode cX9_mutual 107 = .ok (.iinc 3 1, 3) := by decide +kernel
theorem dX9_mutual_110 : decode cX9_mutual 110 = .ok (.goto (-96), 3) := by decide +kernel
theorem dX9_mutual_113 : decode cX9_mutual 113 = .ok (.iinc 2 1, 3) := by decide +kernel
theorem dX9_mutual_116 : decode cX9_mutual 116 = .ok (.goto (-112), 3) := by decide +kernel
theorem dX9_mutual_119 : decode cX9_mutual 119 = .ok (.iload_n 1, 1) := by decide +kernel
theorem dX9_mutual_120 : decode cX9_mutual 120 = .ok (.ireturn, 1) := by decide +kernel
def lp_X9_mutual_14 (μ : Mem) (x2 : Int32) (k113 : Int32 → Option (Int32)) : Nat → Int32 → Int32 → Option (Int32)
  | 0, _, _ => none
  | n + 1, x4, x5 => if 8 ≤ x5 then (k113 x4) else ((f_X9_holds (μ 1 1 5) x2).bind fun (q6 : Int32) => if q6 = 0 then (lp_X9_mutual_14 μ x2 k113 n x4 (x5 + 1)) else ((f_X9_holds (μ 1 1 5) x5).bind fun (q7 : Int32) => if q7 = 0 then (lp_X9_mutual_14 μ x2 k113 n x4 (x5 + 1)) else ((f_X2_spies 0 μ x2).bind fun (q8 : Int32) => (f_X1_roomOf 0 μ x5).bind fun (q9 : Int32) => (f_X9_holds q8 q9).bind fun (q10 : Int32) => if q10 = 0 then (lp_X9_mutual_14 μ x2 k113 n x4 (x5 + 1)) else ((f_X2_spies 0 μ x5).bind fun (q11 : Int32) => (f_X1_roomOf 0 μ x2).bind fun (q12 : Int32) => (f_X9_holds q11 q12).bind fun (q13 : Int32) => if q13 = 0 then (lp_X9_mutual_14 μ x2 k113 n x4 (x5 + 1)) else (lp_X9_mutual_14 μ x2 k113 n (x4 + 1) (x5 + 1))))))
def lp_X9_mutual_4 (μ : Mem) : Nat → Int32 → Int32 → Option (Int32)
  | 0, _, _ => none
  | n + 1, x1, x2 => if 8 ≤ x2 then (some x1) else (lp_X9_mutual_14 μ x2 (fun (x3 : Int32) => lp_X9_mutual_4 μ n x3 (x2 + 1)) 4096 x1 (x2 + 1))
def f_X9_mutual (μ : Mem) : Option (Int32) := lp_X9_mutual_4 μ 4096 0 0
set_option maxHeartbeats 4000000 in
set_option maxRecDepth 100000 in
theorem c_X9_mutual (G : GG) (l : Launch) (μ : Mem) : CR G l yX9_mutual (.code yX9_mutual cX9_mutual 4 (some .int)) 4 [.ref (gad G 0 0)] μ (f_X9_mutual μ) := by
  refine CR.of (own := "SaturdayKeep") (L0 := [some (.ref (gad G 0 0)), none, none, none]) rfl rfl rfl (Nat.le_of_ble_eq_true rfl) (fun C hl hC => ?_)
  subst hl
  delta f_X9_mutual
  refine aw_iconst (pc := 0) (v := 0) hC dX9_mutual_0 ic0 ?_
  refine aw_istore_n (pc := 1) (i := 1) hC dX9_mutual_1 rfl rfl (by decide) ?_
  refine aw_iconst (pc := 2) (v := 0) hC dX9_mutual_2 ic0 ?_
  refine aw_istore_n (pc := 3) (i := 2) hC dX9_mutual_3 rfl rfl (by decide) ?_
  have hL4 : ∀ (n : Nat) (x1 : Int32) (x2 : Int32), AW G C (qR G C 0 0 μ) 0 0 4 μ 4 [some (.ref (gad G 0 0)), some (.int x1), some (.int x2), none] [] (lp_X9_mutual_4 μ n x1 x2) := by
    intro n
    induction n with
    | zero => intro x1 x2; exact aw_none
    | succ n ih =>
      intro x1 x2
      rw [lp_X9_mutual_4]
      refine aw_iload_n (pc := 4) (i := 2) hC dX9_mutual_4 rfl rfl ?_
      refine aw_bipush (pc := 5) (v := 8) hC dX9_mutual_5 bc8 ?_
      refine aw_icmp_ge (pc := 7) (tgt := 119) hC dX9_mutual_7 (by decide) (fun _ => ?_) (fun _ => ?_)
      · skip
        refine aw_iload_n (pc := 119) (i := 1) hC dX9_mutual_119 rfl rfl ?_
        exact aw_iretR hC dX9_mutual_120
      · skip
        refine aw_iload_n (pc := 10) (i := 2) hC dX9_mutual_10 rfl rfl ?_
        refine aw_iconst (pc := 11) (v := 1) hC dX9_mutual_11 ic1 ?_
        refine aw_iadd (pc := 12) hC dX9_mutual_12 ?_
        refine aw_istore_n (pc := 13) (i := 3) hC dX9_mutual_13 rfl rfl (by decide) ?_
        have hL14 : ∀ (k113 : Int32 → Option (Int32)) (hk113 : ∀ (x3 : Int32), AW G C (qR G C 0 0 μ) 0 0 4 μ 113 [some (.ref (gad G 0 0)), some (.int x3), some (.int x2), none] [] (k113 x3)) (n : Nat) (x4 : Int32) (x5 : Int32), AW G C (qR G C 0 0 μ) 0 0 4 μ 14 [some (.ref (gad G 0 0)), some (.int x4), some (.int x2), some (.int x5)] [] (lp_X9_mutual_14 μ x2 k113 n x4 x5) := by
          intro k113 hk113 n
          induction n with
          | zero => intro x4 x5; exact aw_none
          | succ n ih =>
            intro x4 x5
            rw [lp_X9_mutual_14]
            refine aw_iload_n (pc := 14) (i := 3) hC dX9_mutual_14 rfl rfl ?_
            refine aw_bipush (pc := 15) (v := 8) hC dX9_mutual_15 bc8 ?_
            refine aw_icmp_ge (pc := 17) (tgt := 113) hC dX9_mutual_17 (by decide) (fun _ => ?_) (fun _ => ?_)
            · skip
              exact aw_drop [3] (hk113 x4)
            · skip
              refine aw_aload_n (pc := 20) (i := 0) hC dX9_mutual_20 rfl rfl ?_
              refine aw_get (pc := 21) hC inX9 (v0 (j := 0) (by decide)) rfl rfl 4 (by decide) kw280 rfl rfl dX9_mutual_21 ?_
              refine aw_get (pc := 24) hC inX2 (vH (h := 0) (j := 0) (by decide) (by decide)) rfl rfl 0 (by decide) kw186 rfl rfl dX9_mutual_24 ?_
              refine aw_get (pc := 27) hC inX1 (vH (h := 0) (j := 1) (by decide) (by decide)) rfl rfl 5 (by decide) kw150 rfl rfl dX9_mutual_27 ?_
              refine aw_iload_n (pc := 30) (i := 2) hC dX9_mutual_30 rfl rfl ?_
              refine aw_callSR (pc := 31) (As := [.int (μ 1 1 5), .int x2]) hC ms_X9_holds kw415 (by decide) (c_X9_holds G C.2.1   μ (μ 1 1 5) x2) rfl (Nat.le_of_ble_eq_true rfl) dX9_mutual_31 (fun q6 => ?_)
              refine aw_if_eq (pc := 34) (tgt := 107) hC dX9_mutual_34 (by decide) (fun _ => ?_) (fun _ => ?_)
              · skip
                refine aw_iinc (pc := 107) (v := x5 + 1) hC dX9_mutual_107 rfl (congrArg (HAdd.hAdd _) ic1) rfl (by decide) ?_
                refine aw_goto (pc := 110) (tgt := 14) hC dX9_mutual_110 (by decide) ?_
                exact ih x4 (x5 + 1)
              · skip
                refine aw_aload_n (pc := 37) (i := 0) hC dX9_mutual_37 rfl rfl ?_
                refine aw_get (pc := 38) hC inX9 (v0 (j := 0) (by decide)) rfl rfl 4 (by decide) kw280 rfl rfl dX9_mutual_38 ?_
                refine aw_get (pc := 41) hC inX2 (vH (h := 0) (j := 0) (by decide) (by decide)) rfl rfl 0 (by decide) kw186 rfl rfl dX9_mutual_41 ?_
                refine aw_get (pc := 44) hC inX1 (vH (h := 0) (j := 1) (by decide) (by decide)) rfl rfl 5 (by decide) kw150 rfl rfl dX9_mutual_44 ?_
                refine aw_iload_n (pc := 47) (i := 3) hC dX9_mutual_47 rfl rfl ?_
                refine aw_callSR (pc := 48) (As := [.int (μ 1 1 5), .int x5]) hC ms_X9_holds kw415 (by decide) (c_X9_holds G C.2.1   μ (μ 1 1 5) x5) rfl (Nat.le_of_ble_eq_true rfl) dX9_mutual_48 (fun q7 => ?_)
                refine aw_if_eq (pc := 51) (tgt := 107) hC dX9_mutual_51 (by decide) (fun _ => ?_) (fun _ => ?_)
                · skip
                  refine aw_iinc (pc := 107) (v := x5 + 1) hC dX9_mutual_107 rfl (congrArg (HAdd.hAdd _) ic1) rfl (by decide) ?_
                  refine aw_goto (pc := 110) (tgt := 14) hC dX9_mutual_110 (by decide) ?_
                  exact ih x4 (x5 + 1)
                · skip
                  refine aw_aload_n (pc := 54) (i := 0) hC dX9_mutual_54 rfl rfl ?_
                  refine aw_get (pc := 55) hC inX9 (v0 (j := 0) (by decide)) rfl rfl 4 (by decide) kw280 rfl rfl dX9_mutual_55 ?_
                  refine aw_iload_n (pc := 58) (i := 2) hC dX9_mutual_58 rfl rfl ?_
                  refine aw_callVR (pc := 59) (As := [.int x2]) hC mb_X2_spies kw475 (by decide) (c_X2_spies G C.2.1 0 (by decide) μ x2) (vH (h := 0) (j := 0) (by decide) (by decide)) rfl rfl rfl (Nat.le_of_ble_eq_true rfl) dX9_mutual_59 (fun q8 => ?_)
                  refine aw_aload_n (pc := 62) (i := 0) hC dX9_mutual_62 rfl rfl ?_
                  refine aw_get (pc := 63) hC inX9 (v0 (j := 0) (by decide)) rfl rfl 4 (by decide) kw280 rfl rfl dX9_mutual_63 ?_
                  refine aw_get (pc := 66) hC inX2 (vH (h := 0) (j := 0) (by decide) (by decide)) rfl rfl 0 (by decide) kw186 rfl rfl dX9_mutual_66 ?_
                  refine aw_iload_n (pc := 69) (i := 3) hC dX9_mutual_69 rfl rfl ?_
                  refine aw_callVR (pc := 70) (As := [.int x5]) hC mb_X1_roomOf kw493 (by decide) (c_X1_roomOf G C.2.1 0 (by decide) μ x5) (vH (h := 0) (j := 1) (by decide) (by decide)) rfl rfl rfl (Nat.le_of_ble_eq_true rfl) dX9_mutual_70 (fun q9 => ?_)
                  refine aw_callSR (pc := 73) (As := [.int q8, .int q9]) hC ms_X9_holds kw415 (by decide) (c_X9_holds G C.2.1   μ q8 q9) rfl (Nat.le_of_ble_eq_true rfl) dX9_mutual_73 (fun q10 => ?_)
                  refine aw_if_eq (pc := 76) (tgt := 107) hC dX9_mutual_76 (by decide) (fun _ => ?_) (fun _ => ?_)
                  · skip
                    refine aw_iinc (pc := 107) (v := x5 + 1) hC dX9_mutual_107 rfl (congrArg (HAdd.hAdd _) ic1) rfl (by decide) ?_
                    refine aw_goto (pc := 110) (tgt := 14) hC dX9_mutual_110 (by decide) ?_
                    exact ih x4 (x5 + 1)
                  · skip
                    refine aw_aload_n (pc := 79) (i := 0) hC dX9_mutual_79 rfl rfl ?_
                    refine aw_get (pc := 80) hC inX9 (v0 (j := 0) (by decide)) rfl rfl 4 (by decide) kw280 rfl rfl dX9_mutual_80 ?_
                    refine aw_iload_n (pc := 83) (i := 3) hC dX9_mutual_83 rfl rfl ?_
                    refine aw_callVR (pc := 84) (As := [.int x5]) hC mb_X2_spies kw475 (by decide) (c_X2_spies G C.2.1 0 (by decide) μ x5) (vH (h := 0) (j := 0) (by decide) (by decide)) rfl rfl rfl (Nat.le_of_ble_eq_true rfl) dX9_mutual_84 (fun q11 => ?_)
                    refine aw_aload_n (pc := 87) (i := 0) hC dX9_mutual_87 rfl rfl ?_
                    refine aw_get (pc := 88) hC inX9 (v0 (j := 0) (by decide)) rfl rfl 4 (by decide) kw280 rfl rfl dX9_mutual_88 ?_
                    refine aw_get (pc := 91) hC inX2 (vH (h := 0) (j := 0) (by decide) (by decide)) rfl rfl 0 (by decide) kw186 rfl rfl dX9_mutual_91 ?_
                    refine aw_iload_n (pc := 94) (i := 2) hC dX9_mutual_94 rfl rfl ?_
                    refine aw_callVR (pc := 95) (As := [.int x2]) hC mb_X1_roomOf kw493 (by decide) (c_X1_roomOf G C.2.1 0 (by decide) μ x2) (vH (h := 0) (j := 1) (by decide) (by decide)) rfl rfl rfl (Nat.le_of_ble_eq_true rfl) dX9_mutual_95 (fun q12 => ?_)
                    refine aw_callSR (pc := 98) (As := [.int q11, .int q12]) hC ms_X9_holds kw415 (by decide) (c_X9_holds G C.2.1   μ q11 q12) rfl (Nat.le_of_ble_eq_true rfl) dX9_mutual_98 (fun q13 => ?_)
                    refine aw_if_eq (pc := 101) (tgt := 107) hC dX9_mutual_101 (by decide) (fun _ => ?_) (fun _ => ?_)
                    · skip
                      refine aw_iinc (pc := 107) (v := x5 + 1) hC dX9_mutual_107 rfl (congrArg (HAdd.hAdd _) ic1) rfl (by decide) ?_
                      refine aw_goto (pc := 110) (tgt := 14) hC dX9_mutual_110 (by decide) ?_
                      exact ih x4 (x5 + 1)
                    · skip
                      refine aw_iinc (pc := 104) (v := x4 + 1) hC dX9_mutual_104 rfl (congrArg (HAdd.hAdd _) ic1) rfl (by decide) ?_
                      refine aw_iinc (pc := 107) (v := x5 + 1) hC dX9_mutual_107 rfl (congrArg (HAdd.hAdd _) ic1) rfl (by decide) ?_
                      refine aw_goto (pc := 110) (tgt := 14) hC dX9_mutual_110 (by decide) ?_
                      exact ih (x4 + 1) (x5 + 1)
        refine hL14 (fun (x3 : Int32) => lp_X9_mutual_4 μ n x3 (x2 + 1)) (fun x3 => ?_) 4096 x1 (x2 + 1)
        · skip
          refine aw_iinc (pc := 113) (v := x2 + 1) hC dX9_mutual_113 rfl (congrArg (HAdd.hAdd _) ic1) rfl (by decide) ?_
          refine aw_goto (pc := 116) (tgt := 4) hC dX9_mutual_116 (by decide) ?_
          exact ih x3 (x2 + 1)
  exact hL4 4096 0 0
theorem dX9_movesBy_0 : decode cX9_movesBy 0 = .ok (.aload_n 0, 1) := by decide +kernel
theorem dX9_movesBy_1 : decode cX9_movesBy 1 = .ok (.getfield 42, 3) := by decide +kernel
theorem dX9_movesBy_4 : decode cX9_movesBy 4 = .ok (.getfield 139, 3) := by decide +kernel
theorem dX9_movesBy_7 : decode cX9_movesBy 7 = .ok (.iload_n 1, 1) := by decide +kernel
theorem dX9_movesBy_8 : decode cX9_movesBy 8 = .ok (.invokevirtual 348, 3) := by decide +kernel
theorem dX9_movesBy_11 : decode cX9_movesBy 11 = .ok (.istore 4, 2) := by decide +kernel
theorem dX9_movesBy_13 : decode cX9_movesBy 13 = .ok (.iload_n 3, 1) := by decide +kernel
theorem dX9_movesBy_14 : decode cX9_movesBy 14 = .ok (.iload_n 2, 1) := by decide +kernel
theorem dX9_movesBy_15 : decode cX9_movesBy 15 = .ok (.iconst 1, 1) := by decide +kernel
theorem dX9_movesBy_16 : decode cX9_movesBy 16 = .ok (.invokestatic 229, 3) := by decide +kernel
theorem dX9_movesBy_19 : decode cX9_movesBy 19 = .ok (.istore 5, 2) := by decide +kernel
theorem dX9_movesBy_21 : decode cX9_movesBy 21 = .ok (.iload_n 3, 1) := by decide +kernel
theorem dX9_movesBy_22 : decode cX9_movesBy 22 = .ok (.iload_n 2, 1) := by decide +kernel
theorem dX9_movesBy_23 : decode cX9_movesBy 23 = .ok (.invokestatic 158, 3) := by decide +kernel
theorem dX9_movesBy_26 : decode cX9_movesBy 26 = .ok (.ifCond .ne 54, 3) := by decide +kernel
theorem dX9_movesBy_29 : decode cX9_movesBy 29 = .ok (.iload 5, 2) := by decide +kernel
theorem dX9_movesBy_31 : decode cX9_movesBy 31 = .ok (.ifCond .lt 49, 3) := by decide +kernel
theorem dX9_movesBy_34 : decode cX9_movesBy 34 = .ok (.iload 5, 2) := by decide +kernel
theorem dX9_movesBy_36 : decode cX9_movesBy 36 = .ok (.aload_n 0, 1) := by decide +kernel
theorem dX9_movesBy_37 : decode cX9_movesBy 37 = .ok (.getfield 59, 3) := by decide +kernel
theorem dX9_movesBy_40 : decode cX9_movesBy 40 = .ok (.arraylength, 1) := by decide +kernel
theorem dX9_movesBy_41 : decode cX9_movesBy 41 = .ok (.if_icmp .ge 39, 3) := by decide +kernel
theorem dX9_movesBy_44 : decode cX9_movesBy 44 = .ok (.aload_n 0, 1) := by decide +kernel
theorem dX9_movesBy_45 : decode cX9_movesBy 45 = .ok (.getfield 42, 3) := by decide +kernel
theorem dX9_movesBy_48 : decode cX9_movesBy 48 = .ok (.iload_n 2, 1) := by decide +kernel
theorem dX9_movesBy_49 : decode cX9_movesBy 49 = .ok (.aload_n 0, 1) := by decide +kernel
theorem dX9_movesBy_50 : decode cX9_movesBy 50 = .ok (.getfield 42, 3) := by decide +kernel
theorem dX9_movesBy_53 : decode cX9_movesBy 53 = .ok (.getfield 139, 3) := by decide +kernel
theorem dX9_movesBy_56 : decode cX9_movesBy 56 = .ok (.getfield 155, 3) := by decide +kernel
theorem dX9_movesBy_59 : decode cX9_movesBy 59 = .ok (.iload 4, 2) := by decide +kernel
theorem dX9_movesBy_61 : decode cX9_movesBy 61 = .ok (.invokestatic 158, 3) := by decide +kernel
theorem dX9_movesBy_64 : decode cX9_movesBy 64 = .ok (.invokevirtual 334, 3) := by decide +kernel
theorem dX9_movesBy_67 : decode cX9_movesBy 67 = .ok (.aload_n 0, 1) := by decide +kernel
theorem dX9_movesBy_68 : decode cX9_movesBy 68 = .ok (.getfield 42, 3) := by decide +kernel
theorem dX9_movesBy_71 : decode cX9_movesBy 71 = .ok (.getfield 239, 3) := by decide +kernel
theorem dX9_movesBy_74 : decode cX9_movesBy 74 = .ok (.invokestatic 158, 3) := by decide +kernel
theorem dX9_movesBy_77 : decode cX9_movesBy 77 = .ok (.ifCond .eq 6, 3) := by decide +kernel
theorem dX9_movesBy_80 : decode cX9_movesBy 80 = .ok (.bipush 100, 2) := by decide +kernel
theorem dX9_movesBy_82 : decode cX9_movesBy 82 = .ok (.ireturn, 1) := by decide +kernel
theorem dX9_movesBy_83 : decode cX9_movesBy 83 = .ok (.aload_n 0, 1) := by decide +kernel
theorem dX9_movesBy_84 : decode cX9_movesBy 84 = .ok (.getfield 59, 3) := by decide +kernel
theorem dX9_movesBy_87 : decode cX9_movesBy 87 = .ok (.iload 5, 2) := by decide +kernel
theorem dX9_movesBy_89 : decode cX9_movesBy 89 = .ok (.iaload, 1) := by decide +kernel
theorem dX9_movesBy_90 : decode cX9_movesBy 90 = .ok (.aload_n 0, 1) := by decide +kernel
theorem dX9_movesBy_91 : decode cX9_movesBy 91 = .ok (.getfield 42, 3) := by decide +kernel
theorem dX9_movesBy_94 : decode cX9_movesBy 94 = .ok (.getfield 139, 3) := by decide +kernel
theorem dX9_movesBy_97 : decode cX9_movesBy 97 = .ok (.iload 4, 2) := by decide +kernel
theorem dX9_movesBy_99 : decode cX9_movesBy 99 = .ok (.invokevirtual 143, 3) := by decide +kernel
theorem dX9_movesBy_102 : decode cX9_movesBy 102 = .ok (.iload_n 2, 1) := by decide +kernel
theorem dX9_movesBy_103 : decode cX9_movesBy 103 = .ok (.if_icmp .ne 7, 3) := by decide +kernel
theorem dX9_movesBy_106 : decode cX9_movesBy 106 = .ok (.iconst 0, 1) := by decide +kernel
theorem dX9_movesBy_107 : decode cX9_movesBy 107 = .ok (.goto 4, 3) := by decide +kernel
theorem dX9_movesBy_110 : decode cX9_movesBy 110 = .ok (.iconst 1, 1) := by decide +kernel
theorem dX9_movesBy_111 : decode cX9_movesBy 111 = .ok (.iadd, 1) := by decide +kernel
theorem dX9_movesBy_112 : decode cX9_movesBy 112 = .ok (.ireturn, 1) := by decide +kernel
def f_X9_movesBy (μ : Mem) (a1 : Int32) (a2 : Int32) (a3 : Int32) : Option (Int32) := (f_X1_lodger 0 μ a1).bind fun (q1 : Int32) => (f_X9_withMember a3 a2 1).bind fun (q2 : Int32) => (f_X9_holds a3 a2).bind fun (q3 : Int32) => if q3 = 0 then (if q2 < 0 then (some 100) else (if 256 ≤ q2 then (some 100) else ((f_X9_holds (μ 1 1 4) q1).bind fun (q4 : Int32) => (f_X2_sight 0 μ a2 q4).bind fun (q5 : Int32) => (f_X9_holds q5 (μ 1 0 8)).bind fun (q6 : Int32) => if q6 = 0 then (ix q2 256 ((f_X1_roomOf 0 μ q1).bind fun (q7 : Int32) => if q7 = a2 then (some ((μ 0 11 q2.toNatClampNeg) + 0)) else (some ((μ 0 11 q2.toNatClampNeg) + 1)))) else (some 100)))) else (some 100)
set_option maxHeartbeats 4000000 in
set_option maxRecDepth 100000 in
theorem c_X9_movesBy (G : GG) (l : Launch) (μ : Mem) (a1 : Int32) (a2 : Int32) (a3 : Int32) : CR G l yX9_movesBy (.code yX9_movesBy cX9_movesBy 6 (some .int)) 3 [.ref (gad G 0 0), .int a1, .int a2, .int a3] μ (f_X9_movesBy μ a1 a2 a3) := by
  refine CR.of (own := "SaturdayKeep") (L0 := [some (.ref (gad G 0 0)), some (.int a1), some (.int a2), some (.int a3), none, none]) rfl rfl rfl (Nat.le_of_ble_eq_true rfl) (fun C hl hC => ?_)
  subst hl
  delta f_X9_movesBy
  refine aw_aload_n (pc := 0) (i := 0) hC dX9_movesBy_0 rfl rfl ?_
  refine aw_get (pc := 1) hC inX9 (v0 (j := 0) (by decide)) rfl rfl 4 (by decide) kw280 rfl rfl dX9_movesBy_1 ?_
  refine aw_get (pc := 4) hC inX2 (vH (h := 0) (j := 0) (by decide) (by decide)) rfl rfl 0 (by decide) kw186 rfl rfl dX9_movesBy_4 ?_
  refine aw_iload_n (pc := 7) (i := 1) hC dX9_movesBy_7 rfl rfl ?_
  refine aw_callVR (pc := 8) (As := [.int a1]) hC mb_X1_lodger kw511 (by decide) (c_X1_lodger G C.2.1 0 (by decide) μ a1) (vH (h := 0) (j := 1) (by decide) (by decide)) rfl rfl rfl (Nat.le_of_ble_eq_true rfl) dX9_movesBy_8 (fun q1 => ?_)
  refine aw_istore (pc := 11) hC dX9_movesBy_11 rfl (by decide) ?_
  refine aw_iload_n (pc := 13) (i := 3) hC dX9_movesBy_13 rfl rfl ?_
  refine aw_iload_n (pc := 14) (i := 2) hC dX9_movesBy_14 rfl rfl ?_
  refine aw_iconst (pc := 15) (v := 1) hC dX9_movesBy_15 ic1 ?_
  refine aw_callSR (pc := 16) (As := [.int a3, .int a2, .int 1]) hC ms_X9_withMember kw515 (by decide) (c_X9_withMember G C.2.1   μ a3 a2 1) rfl (Nat.le_of_ble_eq_true rfl) dX9_movesBy_16 (fun q2 => ?_)
  refine aw_istore (pc := 19) hC dX9_movesBy_19 rfl (by decide) ?_
  refine aw_iload_n (pc := 21) (i := 3) hC dX9_movesBy_21 rfl rfl ?_
  refine aw_iload_n (pc := 22) (i := 2) hC dX9_movesBy_22 rfl rfl ?_
  refine aw_callSR (pc := 23) (As := [.int a3, .int a2]) hC ms_X9_holds kw415 (by decide) (c_X9_holds G C.2.1   μ a3 a2) rfl (Nat.le_of_ble_eq_true rfl) dX9_movesBy_23 (fun q3 => ?_)
  refine aw_if_ne (pc := 26) (tgt := 80) hC dX9_movesBy_26 (by decide) (fun _ => ?_) (fun _ => ?_)
  · skip
    refine aw_iload (pc := 29) hC dX9_movesBy_29 rfl ?_
    refine aw_if_lt (pc := 31) (tgt := 80) hC dX9_movesBy_31 (by decide) (fun _ => ?_) (fun _ => ?_)
    · skip
      refine aw_bipush (pc := 80) (v := 100) hC dX9_movesBy_80 bc100 ?_
      exact aw_iretR hC dX9_movesBy_82
    · skip
      refine aw_iload (pc := 34) hC dX9_movesBy_34 rfl ?_
      refine aw_aload_n (pc := 36) (i := 0) hC dX9_movesBy_36 rfl rfl ?_
      refine aw_get (pc := 37) hC inX9 (v0 (j := 0) (by decide)) rfl rfl 8 (by decide) kw284 rfl rfl dX9_movesBy_37 ?_
      refine aw_alen (pc := 40) (v := 256) hC (v0 (j := 11) (by decide)) rfl (by decide) dX9_movesBy_40 ?_
      refine aw_icmp_ge (pc := 41) (tgt := 80) hC dX9_movesBy_41 (by decide) (fun _ => ?_) (fun _ => ?_)
      · skip
        refine aw_bipush (pc := 80) (v := 100) hC dX9_movesBy_80 bc100 ?_
        exact aw_iretR hC dX9_movesBy_82
      · skip
        refine aw_aload_n (pc := 44) (i := 0) hC dX9_movesBy_44 rfl rfl ?_
        refine aw_get (pc := 45) hC inX9 (v0 (j := 0) (by decide)) rfl rfl 4 (by decide) kw280 rfl rfl dX9_movesBy_45 ?_
        refine aw_iload_n (pc := 48) (i := 2) hC dX9_movesBy_48 rfl rfl ?_
        refine aw_aload_n (pc := 49) (i := 0) hC dX9_movesBy_49 rfl rfl ?_
        refine aw_get (pc := 50) hC inX9 (v0 (j := 0) (by decide)) rfl rfl 4 (by decide) kw280 rfl rfl dX9_movesBy_50 ?_
        refine aw_get (pc := 53) hC inX2 (vH (h := 0) (j := 0) (by decide) (by decide)) rfl rfl 0 (by decide) kw186 rfl rfl dX9_movesBy_53 ?_
        refine aw_get (pc := 56) hC inX1 (vH (h := 0) (j := 1) (by decide) (by decide)) rfl rfl 4 (by decide) kw147 rfl rfl dX9_movesBy_56 ?_
        refine aw_iload (pc := 59) hC dX9_movesBy_59 rfl ?_
        refine aw_callSR (pc := 61) (As := [.int (μ 1 1 4), .int q1]) hC ms_X9_holds kw415 (by decide) (c_X9_holds G C.2.1   μ (μ 1 1 4) q1) rfl (Nat.le_of_ble_eq_true rfl) dX9_movesBy_61 (fun q4 => ?_)
        refine aw_callVR (pc := 64) (As := [.int a2, .int q4]) hC mb_X2_sight kw494 (by decide) (c_X2_sight G C.2.1 0 (by decide) μ a2 q4) (vH (h := 0) (j := 0) (by decide) (by decide)) rfl rfl rfl (Nat.le_of_ble_eq_true rfl) dX9_movesBy_64 (fun q5 => ?_)
        refine aw_aload_n (pc := 67) (i := 0) hC dX9_movesBy_67 rfl rfl ?_
        refine aw_get (pc := 68) hC inX9 (v0 (j := 0) (by decide)) rfl rfl 4 (by decide) kw280 rfl rfl dX9_movesBy_68 ?_
        refine aw_get (pc := 71) hC inX2 (vH (h := 0) (j := 0) (by decide) (by decide)) rfl rfl 8 (by decide) kw200 rfl rfl dX9_movesBy_71 ?_
        refine aw_callSR (pc := 74) (As := [.int q5, .int (μ 1 0 8)]) hC ms_X9_holds kw415 (by decide) (c_X9_holds G C.2.1   μ q5 (μ 1 0 8)) rfl (Nat.le_of_ble_eq_true rfl) dX9_movesBy_74 (fun q6 => ?_)
        refine aw_if_eq (pc := 77) (tgt := 83) hC dX9_movesBy_77 (by decide) (fun _ => ?_) (fun _ => ?_)
        · skip
          refine aw_aload_n (pc := 83) (i := 0) hC dX9_movesBy_83 rfl rfl ?_
          refine aw_get (pc := 84) hC inX9 (v0 (j := 0) (by decide)) rfl rfl 8 (by decide) kw284 rfl rfl dX9_movesBy_84 ?_
          refine aw_iload (pc := 87) hC dX9_movesBy_87 rfl ?_
          refine aw_iaload (pc := 89) hC (v0 (j := 11) (by decide)) rfl dX9_movesBy_89 ?_
          refine aw_aload_n (pc := 90) (i := 0) hC dX9_movesBy_90 rfl rfl ?_
          refine aw_get (pc := 91) hC inX9 (v0 (j := 0) (by decide)) rfl rfl 4 (by decide) kw280 rfl rfl dX9_movesBy_91 ?_
          refine aw_get (pc := 94) hC inX2 (vH (h := 0) (j := 0) (by decide) (by decide)) rfl rfl 0 (by decide) kw186 rfl rfl dX9_movesBy_94 ?_
          refine aw_iload (pc := 97) hC dX9_movesBy_97 rfl ?_
          refine aw_callVR (pc := 99) (As := [.int q1]) hC mb_X1_roomOf kw493 (by decide) (c_X1_roomOf G C.2.1 0 (by decide) μ q1) (vH (h := 0) (j := 1) (by decide) (by decide)) rfl rfl rfl (Nat.le_of_ble_eq_true rfl) dX9_movesBy_99 (fun q7 => ?_)
          refine aw_iload_n (pc := 102) (i := 2) hC dX9_movesBy_102 rfl rfl ?_
          refine aw_icmp_ne (pc := 103) (tgt := 110) hC dX9_movesBy_103 (by decide) (fun _ => ?_) (fun _ => ?_)
          · skip
            refine aw_iconst (pc := 106) (v := 0) hC dX9_movesBy_106 ic0 ?_
            refine aw_goto (pc := 107) (tgt := 111) hC dX9_movesBy_107 (by decide) ?_
            refine aw_iadd (pc := 111) hC dX9_movesBy_111 ?_
            exact aw_iretR hC dX9_movesBy_112
          · skip
            refine aw_iconst (pc := 110) (v := 1) hC dX9_movesBy_110 ic1 ?_
            refine aw_iadd (pc := 111) hC dX9_movesBy_111 ?_
            exact aw_iretR hC dX9_movesBy_112
        · skip
          refine aw_bipush (pc := 80) (v := 100) hC dX9_movesBy_80 bc100 ?_
          exact aw_iretR hC dX9_movesBy_82
  · skip
    refine aw_bipush (pc := 80) (v := 100) hC dX9_movesBy_80 bc100 ?_
    exact aw_iretR hC dX9_movesBy_82
theorem dX9_weighLodgings_0 : decode cX9_weighLodgings 0 = .ok (.sipush 255, 3) := by decide +kernel
theorem dX9_weighLodgings_3 : decode cX9_weighLodgings 3 = .ok (.istore_n 2, 1) := by decide +kernel
theorem dX9_weighLodgings_4 : decode cX9_weighLodgings 4 = .ok (.iload_n 2, 1) := by decide +kernel
theorem dX9_weighLodgings_5 : decode cX9_weighLodgings 5 = .ok (.ifCond .lt 71, 3) := by decide +kernel
theorem dX9_weighLodgings_8 : decode cX9_weighLodgings 8 = .ok (.iload_n 2, 1) := by decide +kernel
theorem dX9_weighLodgings_9 : decode cX9_weighLodgings 9 = .ok (.invokestatic 317, 3) := by decide +kernel
theorem dX9_weighLodgings_12 : decode cX9_weighLodgings 12 = .ok (.istore_n 3, 1) := by decide +kernel
theorem dX9_weighLodgings_13 : decode cX9_weighLodgings 13 = .ok (.iload_n 3, 1) := by decide +kernel
theorem dX9_weighLodgings_14 : decode cX9_weighLodgings 14 = .ok (.iload_n 1, 1) := by decide +kernel
theorem dX9_weighLodgings_15 : decode cX9_weighLodgings 15 = .ok (.if_icmp .ne 7, 3) := by decide +kernel
theorem dX9_weighLodgings_18 : decode cX9_weighLodgings 18 = .ok (.iconst 0, 1) := by decide +kernel
theorem dX9_weighLodgings_19 : decode cX9_weighLodgings 19 = .ok (.goto 5, 3) := by decide +kernel
theorem dX9_weighLodgings_22 : decode cX9_weighLodgings 22 = .ok (.bipush 100, 2) := by decide +kernel
theorem dX9_weighLodgings_24 : decode cX9_weighLodgings 24 = .ok (.istore 4, 2) := by decide +kernel
theorem dX9_weighLodgings_26 : decode cX9_weighLodgings 26 = .ok (.iload_n 3, 1) := by decide +kernel
theorem dX9_weighLodgings_27 : decode cX9_weighLodgings 27 = .ok (.iload_n 1, 1) := by decide +kernel
theorem dX9_weighLodgings_28 : decode cX9_weighLodgings 28 = .ok (.if_icmp .ge 34, 3) := by decide +kernel
theorem dX9_weighLodgings_31 : decode cX9_weighLodgings 31 = .ok (.iconst 0, 1) := by decide +kernel
theorem dX9_weighLodgings_32 : decode cX9_weighLodgings 32 = .ok (.istore 5, 2) := by decide +kernel
theorem dX9_weighLodgings_34 : decode cX9_weighLodgings 34 = .ok (.iload 5, 2) := by decide +kernel
theorem dX9_weighLodgings_36 : decode cX9_weighLodgings 36 = .ok (.bipush 8, 2) := by decide +kernel
theorem dX9_weighLodgings_38 : decode cX9_weighLodgings 38 = .ok (.if_icmp .ge 24, 3) := by decide +kernel
theorem dX9_weighLodgings_41 : decode cX9_weighLodgings 41 = .ok (.iload 4, 2) := by decide +kernel
theorem dX9_weighLodgings_43 : decode cX9_weighLodgings 43 = .ok (.aload_n 0, 1) := by decide +kernel
theorem dX9_weighLodgings_44 : decode cX9_weighLodgings 44 = .ok (.iload_n 3, 1) := by decide +kernel
theorem dX9_weighLodgings_45 : decode cX9_weighLodgings 45 = .ok (.iload 5, 2) := by decide +kernel
theorem dX9_weighLodgings_47 : decode cX9_weighLodgings 47 = .ok (.iload_n 2, 1) := by decide +kernel
theorem dX9_weighLodgings_48 : decode cX9_weighLodgings 48 = .ok (.invokevirtual 344, 3) := by decide +kernel
theorem dX9_weighLodgings_51 : decode cX9_weighLodgings 51 = .ok (.invokestatic 255, 3) := by decide +kernel
theorem dX9_weighLodgings_54 : decode cX9_weighLodgings 54 = .ok (.istore 4, 2) := by decide +kernel
theorem dX9_weighLodgings_56 : decode cX9_weighLodgings 56 = .ok (.iinc 5 1, 3) := by decide +kernel
theorem dX9_weighLodgings_59 : decode cX9_weighLodgings 59 = .ok (.goto (-25), 3) := by decide +kernel
theorem dX9_weighLodgings_62 : decode cX9_weighLodgings 62 = .ok (.aload_n 0, 1) := by decide +kernel
theorem dX9_weighLodgings_63 : decode cX9_weighLodgings 63 = .ok (.getfield 59, 3) := by decide +kernel
theorem dX9_weighLodgings_66 : decode cX9_weighLodgings 66 = .ok (.iload_n 2, 1) := by decide +kernel
theorem dX9_weighLodgings_67 : decode cX9_weighLodgings 67 = .ok (.iload 4, 2) := by decide +kernel
theorem dX9_weighLodgings_69 : decode cX9_weighLodgings 69 = .ok (.iastore, 1) := by decide +kernel
theorem dX9_weighLodgings_70 : decode cX9_weighLodgings 70 = .ok (.iinc 2 (-1), 3) := by decide +kernel
theorem dX9_weighLodgings_73 : decode cX9_weighLodgings 73 = .ok (.goto (-69), 3) := by decide +kernel
theorem dX9_weighLodgings_76 : decode cX9_weighLodgings 76 = .ok (.return_, 1) := by decide +kernel
def lp_X9_weighLodgings_34 (x1 : Int32) (μ2 : Mem) (q3 : Int32) (k62 : Int32 → Option (Mem)) : Nat → Int32 → Int32 → Option (Mem)
  | 0, _, _ => none
  | n + 1, x8, x9 => if 8 ≤ x9 then (k62 x8) else ((f_X9_movesBy μ2 q3 x9 x1).bind fun (q10 : Int32) => lp_X9_weighLodgings_34 x1 μ2 q3 k62 n (jmin x8 q10) (x9 + 1))
def lp_X9_weighLodgings_4 (a1 : Int32) : Nat → Int32 → Mem → Option (Mem)
  | 0, _, _ => none
  | n + 1, x1, μ2 => if x1 < 0 then (some μ2) else ((f_J6_bitCount_0f7a4 x1).bind fun (q3 : Int32) => nm (fun (x4 : Int32) => nm (fun (x5 : Int32) => ix x1 256 (nm (upm μ2 0 11 x1.toNatClampNeg x5) fun (μ6 : Mem) => lp_X9_weighLodgings_4 a1 n (x1 + (-1)) μ6)) fun (J62 : Int32 → Option (Mem)) => if a1 ≤ q3 then (J62 x4) else (lp_X9_weighLodgings_34 x1 μ2 q3 (fun (x7 : Int32) => J62 x7) 4096 x4 0)) fun (J24 : Int32 → Option (Mem)) => if q3 = a1 then (J24 0) else (J24 100))
def f_X9_weighLodgings (μ : Mem) (a1 : Int32) : Option (Mem) := lp_X9_weighLodgings_4 a1 4096 255 μ
set_option maxHeartbeats 4000000 in
set_option maxRecDepth 100000 in
theorem c_X9_weighLodgings (G : GG) (l : Launch) (μ : Mem) (a1 : Int32) : CV G l yX9_weighLodgings (.code yX9_weighLodgings cX9_weighLodgings 6 none) 4 [.ref (gad G 0 0), .int a1] μ (f_X9_weighLodgings μ a1) := by
  refine CV.of (own := "SaturdayKeep") (L0 := [some (.ref (gad G 0 0)), some (.int a1), none, none, none, none]) rfl rfl rfl (Nat.le_of_ble_eq_true rfl) (fun C hl hC => ?_)
  subst hl
  delta f_X9_weighLodgings
  refine aw_sipush (pc := 0) (v := 255) hC dX9_weighLodgings_0 sc255 ?_
  refine aw_istore_n (pc := 3) (i := 2) hC dX9_weighLodgings_3 rfl rfl (by decide) ?_
  have hL4 : ∀ (n : Nat) (x1 : Int32) (μ2 : Mem), AW G C (qV G C 0 0) 0 0 6 μ2 4 [some (.ref (gad G 0 0)), some (.int a1), some (.int x1), none, none, none] [] (lp_X9_weighLodgings_4 a1 n x1 μ2) := by
    intro n
    induction n with
    | zero => intro x1 μ2; exact aw_none
    | succ n ih =>
      intro x1 μ2
      rw [lp_X9_weighLodgings_4]
      refine aw_iload_n (pc := 4) (i := 2) hC dX9_weighLodgings_4 rfl rfl ?_
      refine aw_if_lt (pc := 5) (tgt := 76) hC dX9_weighLodgings_5 (by decide) (fun _ => ?_) (fun _ => ?_)
      · skip
        exact aw_vret hC dX9_weighLodgings_76
      · skip
        refine aw_iload_n (pc := 8) (i := 2) hC dX9_weighLodgings_8 rfl rfl ?_
        refine aw_callSR (pc := 9) (As := [.int x1]) hC ms_J6_bitCount_0f7a4 kw453 (by decide) (c_J6_bitCount_0f7a4 G C.2.1   μ2 x1) rfl (Nat.le_of_ble_eq_true rfl) dX9_weighLodgings_9 (fun q3 => ?_)
        refine aw_istore_n (pc := 12) (i := 3) hC dX9_weighLodgings_12 rfl rfl (by decide) ?_
        refine aw_iload_n (pc := 13) (i := 3) hC dX9_weighLodgings_13 rfl rfl ?_
        refine aw_iload_n (pc := 14) (i := 1) hC dX9_weighLodgings_14 rfl rfl ?_
        refine aw_nmJ (fun (J24 : Int32 → Option (Mem)) => ∀ (x4 : Int32), AW G C (qV G C 0 0) 0 0 6 μ2 24 [some (.ref (gad G 0 0)), some (.int a1), some (.int x1), some (.int q3), none, none] [.int x4] (J24 x4)) (fun x4 => ?_) (fun J24 hJ24 => ?_)
        · skip
          refine aw_istore (pc := 24) hC dX9_weighLodgings_24 rfl (by decide) ?_
          refine aw_iload_n (pc := 26) (i := 3) hC dX9_weighLodgings_26 rfl rfl ?_
          refine aw_iload_n (pc := 27) (i := 1) hC dX9_weighLodgings_27 rfl rfl ?_
          refine aw_nmJ (fun (J62 : Int32 → Option (Mem)) => ∀ (x5 : Int32), AW G C (qV G C 0 0) 0 0 6 μ2 62 [some (.ref (gad G 0 0)), some (.int a1), some (.int x1), none, some (.int x5), none] [] (J62 x5)) (fun x5 => ?_) (fun J62 hJ62 => ?_)
          · skip
            refine aw_aload_n (pc := 62) (i := 0) hC dX9_weighLodgings_62 rfl rfl ?_
            refine aw_get (pc := 63) hC inX9 (v0 (j := 0) (by decide)) rfl rfl 8 (by decide) kw284 rfl rfl dX9_weighLodgings_63 ?_
            refine aw_iload_n (pc := 66) (i := 2) hC dX9_weighLodgings_66 rfl rfl ?_
            refine aw_iload (pc := 67) hC dX9_weighLodgings_67 rfl ?_
            refine aw_iastoreN (pc := 69) hC (v0 (j := 11) (by decide)) (fun _ => rfl) dX9_weighLodgings_69 (fun μ6 => ?_)
            refine aw_iinc (pc := 70) (v := x1 + (-1)) hC dX9_weighLodgings_70 rfl (congrArg (HAdd.hAdd _) icm1) rfl (by decide) ?_
            refine aw_goto (pc := 73) (tgt := 4) hC dX9_weighLodgings_73 (by decide) ?_
            exact aw_drop [4] (ih (x1 + (-1)) μ6)
          · skip
            refine aw_icmp_ge (pc := 28) (tgt := 62) hC dX9_weighLodgings_28 (by decide) (fun _ => ?_) (fun _ => ?_)
            · skip
              exact aw_drop [3] (hJ62 x4)
            · skip
              refine aw_iconst (pc := 31) (v := 0) hC dX9_weighLodgings_31 ic0 ?_
              refine aw_istore (pc := 32) hC dX9_weighLodgings_32 rfl (by decide) ?_
              have hL34 : ∀ (k62 : Int32 → Option (Mem)) (hk62 : ∀ (x7 : Int32), AW G C (qV G C 0 0) 0 0 6 μ2 62 [some (.ref (gad G 0 0)), some (.int a1), some (.int x1), none, some (.int x7), none] [] (k62 x7)) (n : Nat) (x8 : Int32) (x9 : Int32), AW G C (qV G C 0 0) 0 0 6 μ2 34 [some (.ref (gad G 0 0)), some (.int a1), some (.int x1), some (.int q3), some (.int x8), some (.int x9)] [] (lp_X9_weighLodgings_34 x1 μ2 q3 k62 n x8 x9) := by
                intro k62 hk62 n
                induction n with
                | zero => intro x8 x9; exact aw_none
                | succ n ih =>
                  intro x8 x9
                  rw [lp_X9_weighLodgings_34]
                  refine aw_iload (pc := 34) hC dX9_weighLodgings_34 rfl ?_
                  refine aw_bipush (pc := 36) (v := 8) hC dX9_weighLodgings_36 bc8 ?_
                  refine aw_icmp_ge (pc := 38) (tgt := 62) hC dX9_weighLodgings_38 (by decide) (fun _ => ?_) (fun _ => ?_)
                  · skip
                    exact aw_drop [3, 5] (hk62 x8)
                  · skip
                    refine aw_iload (pc := 41) hC dX9_weighLodgings_41 rfl ?_
                    refine aw_aload_n (pc := 43) (i := 0) hC dX9_weighLodgings_43 rfl rfl ?_
                    refine aw_iload_n (pc := 44) (i := 3) hC dX9_weighLodgings_44 rfl rfl ?_
                    refine aw_iload (pc := 45) hC dX9_weighLodgings_45 rfl ?_
                    refine aw_iload_n (pc := 47) (i := 2) hC dX9_weighLodgings_47 rfl rfl ?_
                    refine aw_callVR (pc := 48) (As := [.int q3, .int x9, .int x1]) hC mb_X9_movesBy kw507 (by decide) (c_X9_movesBy G C.2.1   μ2 q3 x9 x1) (v0 (j := 0) (by decide)) rfl rfl rfl (Nat.le_of_ble_eq_true rfl) dX9_weighLodgings_48 (fun q10 => ?_)
                    refine aw_mmin (pc := 51) hC kw516 kw367 kw12 kw368 (by decide) (Nat.le_of_ble_eq_true rfl) dX9_weighLodgings_51 ?_
                    refine aw_istore (pc := 54) hC dX9_weighLodgings_54 rfl (by decide) ?_
                    refine aw_iinc (pc := 56) (v := x9 + 1) hC dX9_weighLodgings_56 rfl (congrArg (HAdd.hAdd _) ic1) rfl (by decide) ?_
                    refine aw_goto (pc := 59) (tgt := 34) hC dX9_weighLodgings_59 (by decide) ?_
                    exact ih (jmin x8 q10) (x9 + 1)
              refine hL34 (fun (x7 : Int32) => J62 x7) (fun x7 => ?_) 4096 x4 0
              · skip
                exact hJ62 x7
        · skip
          refine aw_icmp_ne (pc := 15) (tgt := 22) hC dX9_weighLodgings_15 (by decide) (fun _ => ?_) (fun _ => ?_)
          · skip
            refine aw_iconst (pc := 18) (v := 0) hC dX9_weighLodgings_18 ic0 ?_
            refine aw_goto (pc := 19) (tgt := 24) hC dX9_weighLodgings_19 (by decide) ?_
            exact hJ24 0
          · skip
            refine aw_bipush (pc := 22) (v := 100) hC dX9_weighLodgings_22 bc100 ?_
            exact hJ24 100
  exact hL4 4096 255 μ
theorem dX9_firstLodging_0 : decode cX9_firstLodging 0 = .ok (.iconst 0, 1) := by decide +kernel
theorem dX9_firstLodging_1 : decode cX9_firstLodging 1 = .ok (.istore_n 3, 1) := by decide +kernel
theorem dX9_firstLodging_2 : decode cX9_firstLodging 2 = .ok (.iload_n 3, 1) := by decide +kernel
theorem dX9_firstLodging_3 : decode cX9_firstLodging 3 = .ok (.bipush 8, 2) := by decide +kernel
theorem dX9_firstLodging_5 : decode cX9_firstLodging 5 = .ok (.if_icmp .ge 40, 3) := by decide +kernel
theorem dX9_firstLodging_8 : decode cX9_firstLodging 8 = .ok (.iload_n 2, 1) := by decide +kernel
theorem dX9_firstLodging_9 : decode cX9_firstLodging 9 = .ok (.ifCond .lt 30, 3) := by decide +kernel
theorem dX9_firstLodging_12 : decode cX9_firstLodging 12 = .ok (.iload_n 2, 1) := by decide +kernel
theorem dX9_firstLodging_13 : decode cX9_firstLodging 13 = .ok (.aload_n 0, 1) := by decide +kernel
theorem dX9_firstLodging_14 : decode cX9_firstLodging 14 = .ok (.getfield 59, 3) := by decide +kernel
theorem dX9_firstLodging_17 : decode cX9_firstLodging 17 = .ok (.arraylength, 1) := by decide +kernel
theorem dX9_firstLodging_18 : decode cX9_firstLodging 18 = .ok (.if_icmp .ge 21, 3) := by decide +kernel
theorem dX9_firstLodging_21 : decode cX9_firstLodging 21 = .ok (.aload_n 0, 1) := by decide +kernel
theorem dX9_firstLodging_22 : decode cX9_firstLodging 22 = .ok (.iload_n 1, 1) := by decide +kernel
theorem dX9_firstLodging_23 : decode cX9_firstLodging 23 = .ok (.iload_n 3, 1) := by decide +kernel
theorem dX9_firstLodging_24 : decode cX9_firstLodging 24 = .ok (.iload_n 2, 1) := by decide +kernel
theorem dX9_firstLodging_25 : decode cX9_firstLodging 25 = .ok (.invokevirtual 344, 3) := by decide +kernel
theorem dX9_firstLodging_28 : decode cX9_firstLodging 28 = .ok (.aload_n 0, 1) := by decide +kernel
theorem dX9_firstLodging_29 : decode cX9_firstLodging 29 = .ok (.getfield 59, 3) := by decide +kernel
theorem dX9_firstLodging_32 : decode cX9_firstLodging 32 = .ok (.iload_n 2, 1) := by decide +kernel
theorem dX9_firstLodging_33 : decode cX9_firstLodging 33 = .ok (.iaload, 1) := by decide +kernel
theorem dX9_firstLodging_34 : decode cX9_firstLodging 34 = .ok (.if_icmp .ne 5, 3) := by decide +kernel
theorem dX9_firstLodging_37 : decode cX9_firstLodging 37 = .ok (.iload_n 3, 1) := by decide +kernel
theorem dX9_firstLodging_38 : decode cX9_firstLodging 38 = .ok (.ireturn, 1) := by decide +kernel
theorem dX9_firstLodging_39 : decode cX9_firstLodging 39 = .ok (.iinc 3 1, 3) := by decide +kernel
theorem dX9_firstLodging_42 : decode cX9_firstLodging 42 = .ok (.goto (-40), 3) := by decide +kernel
theorem dX9_firstLodging_45 : decode cX9_firstLodging 45 = .ok (.iconst (-1), 1) := by decide +kernel
theorem dX9_firstLodging_46 : decode cX9_firstLodging 46 = .ok (.ireturn, 1) := by decide +kernel
def lp_X9_firstLodging_2 (a1 : Int32) (a2 : Int32) (μ : Mem) : Nat → Int32 → Option (Int32)
  | 0, _ => none
  | n + 1, x1 => if 8 ≤ x1 then (some (-1)) else (if a2 < 0 then (lp_X9_firstLodging_2 a1 a2 μ n (x1 + 1)) else (if 256 ≤ a2 then (lp_X9_firstLodging_2 a1 a2 μ n (x1 + 1)) else ((f_X9_movesBy μ a1 x1 a2).bind fun (q2 : Int32) => ix a2 256 (if q2 = (μ 0 11 a2.toNatClampNeg) then (some x1) else (lp_X9_firstLodging_2 a1 a2 μ n (x1 + 1))))))
def f_X9_firstLodging (μ : Mem) (a1 : Int32) (a2 : Int32) : Option (Int32) := lp_X9_firstLodging_2 a1 a2 μ 4096 0
set_option maxHeartbeats 4000000 in
set_option maxRecDepth 100000 in
theorem c_X9_firstLodging (G : GG) (l : Launch) (μ : Mem) (a1 : Int32) (a2 : Int32) : CR G l yX9_firstLodging (.code yX9_firstLodging cX9_firstLodging 4 (some .int)) 4 [.ref (gad G 0 0), .int a1, .int a2] μ (f_X9_firstLodging μ a1 a2) := by
  refine CR.of (own := "SaturdayKeep") (L0 := [some (.ref (gad G 0 0)), some (.int a1), some (.int a2), none]) rfl rfl rfl (Nat.le_of_ble_eq_true rfl) (fun C hl hC => ?_)
  subst hl
  delta f_X9_firstLodging
  refine aw_iconst (pc := 0) (v := 0) hC dX9_firstLodging_0 ic0 ?_
  refine aw_istore_n (pc := 1) (i := 3) hC dX9_firstLodging_1 rfl rfl (by decide) ?_
  have hL2 : ∀ (n : Nat) (x1 : Int32), AW G C (qR G C 0 0 μ) 0 0 4 μ 2 [some (.ref (gad G 0 0)), some (.int a1), some (.int a2), some (.int x1)] [] (lp_X9_firstLodging_2 a1 a2 μ n x1) := by
    intro n
    induction n with
    | zero => intro x1; exact aw_none
    | succ n ih =>
      intro x1
      rw [lp_X9_firstLodging_2]
      refine aw_iload_n (pc := 2) (i := 3) hC dX9_firstLodging_2 rfl rfl ?_
      refine aw_bipush (pc := 3) (v := 8) hC dX9_firstLodging_3 bc8 ?_
      refine aw_icmp_ge (pc := 5) (tgt := 45) hC dX9_firstLodging_5 (by decide) (fun _ => ?_) (fun _ => ?_)
      · skip
        refine aw_iconst (pc := 45) (v := (-1)) hC dX9_firstLodging_45 icm1 ?_
        exact aw_iretR hC dX9_firstLodging_46
      · skip
        refine aw_iload_n (pc := 8) (i := 2) hC dX9_firstLodging_8 rfl rfl ?_
        refine aw_if_lt (pc := 9) (tgt := 39) hC dX9_firstLodging_9 (by decide) (fun _ => ?_) (fun _ => ?_)
        · skip
          refine aw_iinc (pc := 39) (v := x1 + 1) hC dX9_firstLodging_39 rfl (congrArg (HAdd.hAdd _) ic1) rfl (by decide) ?_
          refine aw_goto (pc := 42) (tgt := 2) hC dX9_firstLodging_42 (by decide) ?_
          exact ih (x1 + 1)
        · skip
          refine aw_iload_n (pc := 12) (i := 2) hC dX9_firstLodging_12 rfl rfl ?_
          refine aw_aload_n (pc := 13) (i := 0) hC dX9_firstLodging_13 rfl rfl ?_
          refine aw_get (pc := 14) hC inX9 (v0 (j := 0) (by decide)) rfl rfl 8 (by decide) kw284 rfl rfl dX9_firstLodging_14 ?_
          refine aw_alen (pc := 17) (v := 256) hC (v0 (j := 11) (by decide)) rfl (by decide) dX9_firstLodging_17 ?_
          refine aw_icmp_ge (pc := 18) (tgt := 39) hC dX9_firstLodging_18 (by decide) (fun _ => ?_) (fun _ => ?_)
          · skip
            refine aw_iinc (pc := 39) (v := x1 + 1) hC dX9_firstLodging_39 rfl (congrArg (HAdd.hAdd _) ic1) rfl (by decide) ?_
            refine aw_goto (pc := 42) (tgt := 2) hC dX9_firstLodging_42 (by decide) ?_
            exact ih (x1 + 1)
          · skip
            refine aw_aload_n (pc := 21) (i := 0) hC dX9_firstLodging_21 rfl rfl ?_
            refine aw_iload_n (pc := 22) (i := 1) hC dX9_firstLodging_22 rfl rfl ?_
            refine aw_iload_n (pc := 23) (i := 3) hC dX9_firstLodging_23 rfl rfl ?_
            refine aw_iload_n (pc := 24) (i := 2) hC dX9_firstLodging_24 rfl rfl ?_
            refine aw_callVR (pc := 25) (As := [.int a1, .int x1, .int a2]) hC mb_X9_movesBy kw507 (by decide) (c_X9_movesBy G C.2.1   μ a1 x1 a2) (v0 (j := 0) (by decide)) rfl rfl rfl (Nat.le_of_ble_eq_true rfl) dX9_firstLodging_25 (fun q2 => ?_)
            refine aw_aload_n (pc := 28) (i := 0) hC dX9_firstLodging_28 rfl rfl ?_
            refine aw_get (pc := 29) hC inX9 (v0 (j := 0) (by decide)) rfl rfl 8 (by decide) kw284 rfl rfl dX9_firstLodging_29 ?_
            refine aw_iload_n (pc := 32) (i := 2) hC dX9_firstLodging_32 rfl rfl ?_
            refine aw_iaload (pc := 33) hC (v0 (j := 11) (by decide)) rfl dX9_firstLodging_33 ?_
            refine aw_icmp_ne (pc := 34) (tgt := 39) hC dX9_firstLodging_34 (by decide) (fun _ => ?_) (fun _ => ?_)
            · skip
              refine aw_iload_n (pc := 37) (i := 3) hC dX9_firstLodging_37 rfl rfl ?_
              exact aw_iretR hC dX9_firstLodging_38
            · skip
              refine aw_iinc (pc := 39) (v := x1 + 1) hC dX9_firstLodging_39 rfl (congrArg (HAdd.hAdd _) ic1) rfl (by decide) ?_
              refine aw_goto (pc := 42) (tgt := 2) hC dX9_firstLodging_42 (by decide) ?_
              exact ih (x1 + 1)
  exact hL2 4096 0
theorem dX9_lodge_0 : decode cX9_lodge 0 = .ok (.aload_n 0, 1) := by decide +kernel
theorem dX9_lodge_1 : decode cX9_lodge 1 = .ok (.getfield 42, 3) := by decide +kernel
theorem dX9_lodge_4 : decode cX9_lodge 4 = .ok (.getfield 139, 3) := by decide +kernel
theorem dX9_lodge_7 : decode cX9_lodge 7 = .ok (.getfield 162, 3) := by decide +kernel
theorem dX9_lodge_10 : decode cX9_lodge 10 = .ok (.invokestatic 317, 3) := by decide +kernel
theorem dX9_lodge_13 : decode cX9_lodge 13 = .ok (.istore_n 2, 1) := by decide +kernel
theorem dX9_lodge_14 : decode cX9_lodge 14 = .ok (.aload_n 0, 1) := by decide +kernel
theorem dX9_lodge_15 : decode cX9_lodge 15 = .ok (.iload_n 2, 1) := by decide +kernel
theorem dX9_lodge_16 : decode cX9_lodge 16 = .ok (.invokevirtual 338, 3) := by decide +kernel
theorem dX9_lodge_19 : decode cX9_lodge 19 = .ok (.aload_n 0, 1) := by decide +kernel
theorem dX9_lodge_20 : decode cX9_lodge 20 = .ok (.getfield 59, 3) := by decide +kernel
theorem dX9_lodge_23 : decode cX9_lodge 23 = .ok (.iconst 0, 1) := by decide +kernel
theorem dX9_lodge_24 : decode cX9_lodge 24 = .ok (.iaload, 1) := by decide +kernel
theorem dX9_lodge_25 : decode cX9_lodge 25 = .ok (.bipush 100, 2) := by decide +kernel
theorem dX9_lodge_27 : decode cX9_lodge 27 = .ok (.if_icmp .lt 5, 3) := by decide +kernel
theorem dX9_lodge_30 : decode cX9_lodge 30 = .ok (.iconst (-1), 1) := by decide +kernel
theorem dX9_lodge_31 : decode cX9_lodge 31 = .ok (.ireturn, 1) := by decide +kernel
theorem dX9_lodge_32 : decode cX9_lodge 32 = .ok (.iload_n 1, 1) := by decide +kernel
theorem dX9_lodge_33 : decode cX9_lodge 33 = .ok (.iconst (-1), 1) := by decide +kernel
theorem dX9_lodge_34 : decode cX9_lodge 34 = .ok (.if_icmp .ne 10, 3) := by decide +kernel
theorem dX9_lodge_37 : decode cX9_lodge 37 = .ok (.aload_n 0, 1) := by decide +kernel
theorem dX9_lodge_38 : decode cX9_lodge 38 = .ok (.getfield 59, 3) := by decide +kernel
theorem dX9_lodge_41 : decode cX9_lodge 41 = .ok (.iconst 0, 1) := by decide +kernel
theorem dX9_lodge_42 : decode cX9_lodge 42 = .ok (.iaload, 1) := by decide +kernel
theorem dX9_lodge_43 : decode cX9_lodge 43 = .ok (.ireturn, 1) := by decide +kernel
theorem dX9_lodge_44 : decode cX9_lodge 44 = .ok (.iload_n 1, 1) := by decide +kernel
theorem dX9_lodge_45 : decode cX9_lodge 45 = .ok (.ifCond .lt 8, 3) := by decide +kernel
theorem dX9_lodge_48 : decode cX9_lodge 48 = .ok (.iload_n 1, 1) := by decide +kernel
theorem dX9_lodge_49 : decode cX9_lodge 49 = .ok (.iload_n 2, 1) := by decide +kernel
theorem dX9_lodge_50 : decode cX9_lodge 50 = .ok (.if_icmp .lt 5, 3) := by decide +kernel
theorem dX9_lodge_53 : decode cX9_lodge 53 = .ok (.iconst (-1), 1) := by decide +kernel
theorem dX9_lodge_54 : decode cX9_lodge 54 = .ok (.ireturn, 1) := by decide +kernel
theorem dX9_lodge_55 : decode cX9_lodge 55 = .ok (.iconst 0, 1) := by decide +kernel
theorem dX9_lodge_56 : decode cX9_lodge 56 = .ok (.istore_n 3, 1) := by decide +kernel
theorem dX9_lodge_57 : decode cX9_lodge 57 = .ok (.iconst (-1), 1) := by decide +kernel
theorem dX9_lodge_58 : decode cX9_lodge 58 = .ok (.istore 4, 2) := by decide +kernel
theorem dX9_lodge_60 : decode cX9_lodge 60 = .ok (.iconst 0, 1) := by decide +kernel
theorem dX9_lodge_61 : decode cX9_lodge 61 = .ok (.istore 5, 2) := by decide +kernel
theorem dX9_lodge_63 : decode cX9_lodge 63 = .ok (.iload 5, 2) := by decide +kernel
theorem dX9_lodge_65 : decode cX9_lodge 65 = .ok (.iload_n 1, 1) := by decide +kernel
theorem dX9_lodge_66 : decode cX9_lodge 66 = .ok (.if_icmp .gt 26, 3) := by decide +kernel
theorem dX9_lodge_69 : decode cX9_lodge 69 = .ok (.aload_n 0, 1) := by decide +kernel
theorem dX9_lodge_70 : decode cX9_lodge 70 = .ok (.iload 5, 2) := by decide +kernel
theorem dX9_lodge_72 : decode cX9_lodge 72 = .ok (.iload_n 3, 1) := by decide +kernel
theorem dX9_lodge_73 : decode cX9_lodge 73 = .ok (.invokevirtual 341, 3) := by decide +kernel
theorem dX9_lodge_76 : decode cX9_lodge 76 = .ok (.istore 4, 2) := by decide +kernel
theorem dX9_lodge_78 : decode cX9_lodge 78 = .ok (.iload_n 3, 1) := by decide +kernel
theorem dX9_lodge_79 : decode cX9_lodge 79 = .ok (.iload 4, 2) := by decide +kernel
theorem dX9_lodge_81 : decode cX9_lodge 81 = .ok (.iconst 1, 1) := by decide +kernel
theorem dX9_lodge_82 : decode cX9_lodge 82 = .ok (.invokestatic 229, 3) := by decide +kernel
theorem dX9_lodge_85 : decode cX9_lodge 85 = .ok (.istore_n 3, 1) := by decide +kernel
theorem dX9_lodge_86 : decode cX9_lodge 86 = .ok (.iinc 5 1, 3) := by decide +kernel
theorem dX9_lodge_89 : decode cX9_lodge 89 = .ok (.goto (-26), 3) := by decide +kernel
theorem dX9_lodge_92 : decode cX9_lodge 92 = .ok (.iload 4, 2) := by decide +kernel
theorem dX9_lodge_94 : decode cX9_lodge 94 = .ok (.ireturn, 1) := by decide +kernel
def lp_X9_lodge_63 (a1 : Int32) (q2 : Mem) : Nat → Int32 → Int32 → Int32 → Option (Int32 × Mem)
  | 0, _, _, _ => none
  | n + 1, x3, x4, x5 => if a1 < x5 then (some (x4, q2)) else ((f_X9_firstLodging q2 x5 x3).bind fun (q6 : Int32) => (f_X9_withMember x3 q6 1).bind fun (q7 : Int32) => lp_X9_lodge_63 a1 q2 n q7 q6 (x5 + 1))
def f_X9_lodge (μ : Mem) (a1 : Int32) : Option (Int32 × Mem) := (f_J6_bitCount_0f7a4 (μ 1 1 5)).bind fun (q1 : Int32) => (f_X9_weighLodgings μ q1).bind fun (q2 : Mem) => ix 0 256 (if (q2 0 11 (Int32.toNatClampNeg 0)) < 100 then (if a1 = (-1) then (ix 0 256 (some ((q2 0 11 (Int32.toNatClampNeg 0)), q2))) else (if a1 < 0 then (some ((-1), q2)) else (if a1 < q1 then (lp_X9_lodge_63 a1 q2 4096 0 (-1) 0) else (some ((-1), q2))))) else (some ((-1), q2)))
set_option maxHeartbeats 4000000 in
set_option maxRecDepth 100000 in
theorem c_X9_lodge (G : GG) (l : Launch) (μ : Mem) (a1 : Int32) : CI G l yX9_lodge (.code yX9_lodge cX9_lodge 6 (some .int)) 5 [.ref (gad G 0 0), .int a1] μ (f_X9_lodge μ a1) := by
  refine CI.of (own := "SaturdayKeep") (L0 := [some (.ref (gad G 0 0)), some (.int a1), none, none, none, none]) rfl rfl rfl (Nat.le_of_ble_eq_true rfl) (fun C hl hC => ?_)
  subst hl
  delta f_X9_lodge
  refine aw_aload_n (pc := 0) (i := 0) hC dX9_lodge_0 rfl rfl ?_
  refine aw_get (pc := 1) hC inX9 (v0 (j := 0) (by decide)) rfl rfl 4 (by decide) kw280 rfl rfl dX9_lodge_1 ?_
  refine aw_get (pc := 4) hC inX2 (vH (h := 0) (j := 0) (by decide) (by decide)) rfl rfl 0 (by decide) kw186 rfl rfl dX9_lodge_4 ?_
  refine aw_get (pc := 7) hC inX1 (vH (h := 0) (j := 1) (by decide) (by decide)) rfl rfl 5 (by decide) kw150 rfl rfl dX9_lodge_7 ?_
  refine aw_callSR (pc := 10) (As := [.int (μ 1 1 5)]) hC ms_J6_bitCount_0f7a4 kw453 (by decide) (c_J6_bitCount_0f7a4 G C.2.1   μ (μ 1 1 5)) rfl (Nat.le_of_ble_eq_true rfl) dX9_lodge_10 (fun q1 => ?_)
  refine aw_istore_n (pc := 13) (i := 2) hC dX9_lodge_13 rfl rfl (by decide) ?_
  refine aw_aload_n (pc := 14) (i := 0) hC dX9_lodge_14 rfl rfl ?_
  refine aw_iload_n (pc := 15) (i := 2) hC dX9_lodge_15 rfl rfl ?_
  refine aw_callVV (pc := 16) (As := [.int q1]) hC mb_X9_weighLodgings kw503 (by decide) (c_X9_weighLodgings G C.2.1   μ q1) (v0 (j := 0) (by decide)) rfl rfl rfl (Nat.le_of_ble_eq_true rfl) dX9_lodge_16 (fun q2 => ?_)
  refine aw_aload_n (pc := 19) (i := 0) hC dX9_lodge_19 rfl rfl ?_
  refine aw_get (pc := 20) hC inX9 (v0 (j := 0) (by decide)) rfl rfl 8 (by decide) kw284 rfl rfl dX9_lodge_20 ?_
  refine aw_iconst (pc := 23) (v := 0) hC dX9_lodge_23 ic0 ?_
  refine aw_iaload (pc := 24) hC (v0 (j := 11) (by decide)) rfl dX9_lodge_24 ?_
  refine aw_bipush (pc := 25) (v := 100) hC dX9_lodge_25 bc100 ?_
  refine aw_icmp_lt (pc := 27) (tgt := 32) hC dX9_lodge_27 (by decide) (fun _ => ?_) (fun _ => ?_)
  · skip
    refine aw_iload_n (pc := 32) (i := 1) hC dX9_lodge_32 rfl rfl ?_
    refine aw_iconst (pc := 33) (v := (-1)) hC dX9_lodge_33 icm1 ?_
    refine aw_icmp_ne (pc := 34) (tgt := 44) hC dX9_lodge_34 (by decide) (fun _ => ?_) (fun _ => ?_)
    · skip
      refine aw_aload_n (pc := 37) (i := 0) hC dX9_lodge_37 rfl rfl ?_
      refine aw_get (pc := 38) hC inX9 (v0 (j := 0) (by decide)) rfl rfl 8 (by decide) kw284 rfl rfl dX9_lodge_38 ?_
      refine aw_iconst (pc := 41) (v := 0) hC dX9_lodge_41 ic0 ?_
      refine aw_iaload (pc := 42) hC (v0 (j := 11) (by decide)) rfl dX9_lodge_42 ?_
      exact aw_iret hC dX9_lodge_43
    · skip
      refine aw_iload_n (pc := 44) (i := 1) hC dX9_lodge_44 rfl rfl ?_
      refine aw_if_lt (pc := 45) (tgt := 53) hC dX9_lodge_45 (by decide) (fun _ => ?_) (fun _ => ?_)
      · skip
        refine aw_iconst (pc := 53) (v := (-1)) hC dX9_lodge_53 icm1 ?_
        exact aw_iret hC dX9_lodge_54
      · skip
        refine aw_iload_n (pc := 48) (i := 1) hC dX9_lodge_48 rfl rfl ?_
        refine aw_iload_n (pc := 49) (i := 2) hC dX9_lodge_49 rfl rfl ?_
        refine aw_icmp_lt (pc := 50) (tgt := 55) hC dX9_lodge_50 (by decide) (fun _ => ?_) (fun _ => ?_)
        · skip
          refine aw_iconst (pc := 55) (v := 0) hC dX9_lodge_55 ic0 ?_
          refine aw_istore_n (pc := 56) (i := 3) hC dX9_lodge_56 rfl rfl (by decide) ?_
          refine aw_iconst (pc := 57) (v := (-1)) hC dX9_lodge_57 icm1 ?_
          refine aw_istore (pc := 58) hC dX9_lodge_58 rfl (by decide) ?_
          refine aw_iconst (pc := 60) (v := 0) hC dX9_lodge_60 ic0 ?_
          refine aw_istore (pc := 61) hC dX9_lodge_61 rfl (by decide) ?_
          have hL63 : ∀ (n : Nat) (x3 : Int32) (x4 : Int32) (x5 : Int32), AW G C (qI G C 0 0) 0 0 6 q2 63 [some (.ref (gad G 0 0)), some (.int a1), none, some (.int x3), some (.int x4), some (.int x5)] [] (lp_X9_lodge_63 a1 q2 n x3 x4 x5) := by
            intro n
            induction n with
            | zero => intro x3 x4 x5; exact aw_none
            | succ n ih =>
              intro x3 x4 x5
              rw [lp_X9_lodge_63]
              refine aw_iload (pc := 63) hC dX9_lodge_63 rfl ?_
              refine aw_iload_n (pc := 65) (i := 1) hC dX9_lodge_65 rfl rfl ?_
              refine aw_icmp_gt (pc := 66) (tgt := 92) hC dX9_lodge_66 (by decide) (fun _ => ?_) (fun _ => ?_)
              · skip
                refine aw_iload (pc := 92) hC dX9_lodge_92 rfl ?_
                exact aw_iret hC dX9_lodge_94
              · skip
                refine aw_aload_n (pc := 69) (i := 0) hC dX9_lodge_69 rfl rfl ?_
                refine aw_iload (pc := 70) hC dX9_lodge_70 rfl ?_
                refine aw_iload_n (pc := 72) (i := 3) hC dX9_lodge_72 rfl rfl ?_
                refine aw_callVR (pc := 73) (As := [.int x5, .int x3]) hC mb_X9_firstLodging kw517 (by decide) (c_X9_firstLodging G C.2.1   q2 x5 x3) (v0 (j := 0) (by decide)) rfl rfl rfl (Nat.le_of_ble_eq_true rfl) dX9_lodge_73 (fun q6 => ?_)
                refine aw_istore (pc := 76) hC dX9_lodge_76 rfl (by decide) ?_
                refine aw_iload_n (pc := 78) (i := 3) hC dX9_lodge_78 rfl rfl ?_
                refine aw_iload (pc := 79) hC dX9_lodge_79 rfl ?_
                refine aw_iconst (pc := 81) (v := 1) hC dX9_lodge_81 ic1 ?_
                refine aw_callSR (pc := 82) (As := [.int x3, .int q6, .int 1]) hC ms_X9_withMember kw515 (by decide) (c_X9_withMember G C.2.1   q2 x3 q6 1) rfl (Nat.le_of_ble_eq_true rfl) dX9_lodge_82 (fun q7 => ?_)
                refine aw_istore_n (pc := 85) (i := 3) hC dX9_lodge_85 rfl rfl (by decide) ?_
                refine aw_iinc (pc := 86) (v := x5 + 1) hC dX9_lodge_86 rfl (congrArg (HAdd.hAdd _) ic1) rfl (by decide) ?_
                refine aw_goto (pc := 89) (tgt := 63) hC dX9_lodge_89 (by decide) ?_
                exact ih q7 q6 (x5 + 1)
          exact aw_drop [2] (hL63 4096 0 (-1) 0)
        · skip
          refine aw_iconst (pc := 53) (v := (-1)) hC dX9_lodge_53 icm1 ?_
          exact aw_iret hC dX9_lodge_54
  · skip
    refine aw_iconst (pc := 30) (v := (-1)) hC dX9_lodge_30 icm1 ?_
    exact aw_iret hC dX9_lodge_31
theorem dX9_keenest_0 : decode cX9_keenest 0 = .ok (.iconst (-1), 1) := by decide +kernel
theorem dX9_keenest_1 : decode cX9_keenest 1 = .ok (.istore_n 1, 1) := by decide +kernel
theorem dX9_keenest_2 : decode cX9_keenest 2 = .ok (.iconst 0, 1) := by decide +kernel
theorem dX9_keenest_3 : decode cX9_keenest 3 = .ok (.istore_n 2, 1) := by decide +kernel
theorem dX9_keenest_4 : decode cX9_keenest 4 = .ok (.iload_n 2, 1) := by decide +kernel
theorem dX9_keenest_5 : decode cX9_keenest 5 = .ok (.bipush 8, 2) := by decide +kernel
theorem dX9_keenest_7 : decode cX9_keenest 7 = .ok (.if_icmp .ge 58, 3) := by decide +kernel
theorem dX9_keenest_10 : decode cX9_keenest 10 = .ok (.aload_n 0, 1) := by decide +kernel
theorem dX9_keenest_11 : decode cX9_keenest 11 = .ok (.getfield 42, 3) := by decide +kernel
theorem dX9_keenest_14 : decode cX9_keenest 14 = .ok (.getfield 139, 3) := by decide +kernel
theorem dX9_keenest_17 : decode cX9_keenest 17 = .ok (.getfield 162, 3) := by decide +kernel
theorem dX9_keenest_20 : decode cX9_keenest 20 = .ok (.iload_n 2, 1) := by decide +kernel
theorem dX9_keenest_21 : decode cX9_keenest 21 = .ok (.invokestatic 158, 3) := by decide +kernel
theorem dX9_keenest_24 : decode cX9_keenest 24 = .ok (.ifCond .eq 35, 3) := by decide +kernel
theorem dX9_keenest_27 : decode cX9_keenest 27 = .ok (.iload_n 1, 1) := by decide +kernel
theorem dX9_keenest_28 : decode cX9_keenest 28 = .ok (.iconst (-1), 1) := by decide +kernel
theorem dX9_keenest_29 : decode cX9_keenest 29 = .ok (.if_icmp .eq 28, 3) := by decide +kernel
theorem dX9_keenest_32 : decode cX9_keenest 32 = .ok (.aload_n 0, 1) := by decide +kernel
theorem dX9_keenest_33 : decode cX9_keenest 33 = .ok (.getfield 42, 3) := by decide +kernel
theorem dX9_keenest_36 : decode cX9_keenest 36 = .ok (.getfield 139, 3) := by decide +kernel
theorem dX9_keenest_39 : decode cX9_keenest 39 = .ok (.iload_n 2, 1) := by decide +kernel
theorem dX9_keenest_40 : decode cX9_keenest 40 = .ok (.invokevirtual 165, 3) := by decide +kernel
theorem dX9_keenest_43 : decode cX9_keenest 43 = .ok (.aload_n 0, 1) := by decide +kernel
theorem dX9_keenest_44 : decode cX9_keenest 44 = .ok (.getfield 42, 3) := by decide +kernel
theorem dX9_keenest_47 : decode cX9_keenest 47 = .ok (.getfield 139, 3) := by decide +kernel
theorem dX9_keenest_50 : decode cX9_keenest 50 = .ok (.iload_n 1, 1) := by decide +kernel
theorem dX9_keenest_51 : decode cX9_keenest 51 = .ok (.invokevirtual 165, 3) := by decide +kernel
theorem dX9_keenest_54 : decode cX9_keenest 54 = .ok (.if_icmp .le 5, 3) := by decide +kernel
theorem dX9_keenest_57 : decode cX9_keenest 57 = .ok (.iload_n 2, 1) := by decide +kernel
theorem dX9_keenest_58 : decode cX9_keenest 58 = .ok (.istore_n 1, 1) := by decide +kernel
theorem dX9_keenest_59 : decode cX9_keenest 59 = .ok (.iinc 2 1, 3) := by decide +kernel
theorem dX9_keenest_62 : decode cX9_keenest 62 = .ok (.goto (-58), 3) := by decide +kernel
theorem dX9_keenest_65 : decode cX9_keenest 65 = .ok (.iload_n 1, 1) := by decide +kernel
theorem dX9_keenest_66 : decode cX9_keenest 66 = .ok (.ireturn, 1) := by decide +kernel
def lp_X9_keenest_4 (μ : Mem) : Nat → Int32 → Int32 → Option (Int32)
  | 0, _, _ => none
  | n + 1, x1, x2 => if 8 ≤ x2 then (some x1) else ((f_X9_holds (μ 1 1 5) x2).bind fun (q3 : Int32) => if q3 = 0 then (lp_X9_keenest_4 μ n x1 (x2 + 1)) else (if x1 = (-1) then (lp_X9_keenest_4 μ n x2 (x2 + 1)) else ((f_X1_risk 0 μ x2).bind fun (q4 : Int32) => (f_X1_risk 0 μ x1).bind fun (q5 : Int32) => if q4 ≤ q5 then (lp_X9_keenest_4 μ n x1 (x2 + 1)) else (lp_X9_keenest_4 μ n x2 (x2 + 1)))))
def f_X9_keenest (μ : Mem) : Option (Int32) := lp_X9_keenest_4 μ 4096 (-1) 0
set_option maxHeartbeats 4000000 in
set_option maxRecDepth 100000 in
theorem c_X9_keenest (G : GG) (l : Launch) (μ : Mem) : CR G l yX9_keenest (.code yX9_keenest cX9_keenest 3 (some .int)) 4 [.ref (gad G 0 0)] μ (f_X9_keenest μ) := by
  refine CR.of (own := "SaturdayKeep") (L0 := [some (.ref (gad G 0 0)), none, none]) rfl rfl rfl (Nat.le_of_ble_eq_true rfl) (fun C hl hC => ?_)
  subst hl
  delta f_X9_keenest
  refine aw_iconst (pc := 0) (v := (-1)) hC dX9_keenest_0 icm1 ?_
  refine aw_istore_n (pc := 1) (i := 1) hC dX9_keenest_1 rfl rfl (by decide) ?_
  refine aw_iconst (pc := 2) (v := 0) hC dX9_keenest_2 ic0 ?_
  refine aw_istore_n (pc := 3) (i := 2) hC dX9_keenest_3 rfl rfl (by decide) ?_
  have hL4 : ∀ (n : Nat) (x1 : Int32) (x2 : Int32), AW G C (qR G C 0 0 μ) 0 0 3 μ 4 [some (.ref (gad G 0 0)), some (.int x1), some (.int x2)] [] (lp_X9_keenest_4 μ n x1 x2) := by
    intro n
    induction n with
    | zero => intro x1 x2; exact aw_none
    | succ n ih =>
      intro x1 x2
      rw [lp_X9_keenest_4]
      refine aw_iload_n (pc := 4) (i := 2) hC dX9_keenest_4 rfl rfl ?_
      refine aw_bipush (pc := 5) (v := 8) hC dX9_keenest_5 bc8 ?_
      refine aw_icmp_ge (pc := 7) (tgt := 65) hC dX9_keenest_7 (by decide) (fun _ => ?_) (fun _ => ?_)
      · skip
        refine aw_iload_n (pc := 65) (i := 1) hC dX9_keenest_65 rfl rfl ?_
        exact aw_iretR hC dX9_keenest_66
      · skip
        refine aw_aload_n (pc := 10) (i := 0) hC dX9_keenest_10 rfl rfl ?_
        refine aw_get (pc := 11) hC inX9 (v0 (j := 0) (by decide)) rfl rfl 4 (by decide) kw280 rfl rfl dX9_keenest_11 ?_
        refine aw_get (pc := 14) hC inX2 (vH (h := 0) (j := 0) (by decide) (by decide)) rfl rfl 0 (by decide) kw186 rfl rfl dX9_keenest_14 ?_
        refine aw_get (pc := 17) hC inX1 (vH (h := 0) (j := 1) (by decide) (by decide)) rfl rfl 5 (by decide) kw150 rfl rfl dX9_keenest_17 ?_
        refine aw_iload_n (pc := 20) (i := 2) hC dX9_keenest_20 rfl rfl ?_
        refine aw_callSR (pc := 21) (As := [.int (μ 1 1 5), .int x2]) hC ms_X9_holds kw415 (by decide) (c_X9_holds G C.2.1   μ (μ 1 1 5) x2) rfl (Nat.le_of_ble_eq_true rfl) dX9_keenest_21 (fun q3 => ?_)
        refine aw_if_eq (pc := 24) (tgt := 59) hC dX9_keenest_24 (by decide) (fun _ => ?_) (fun _ => ?_)
        · skip
          refine aw_iinc (pc := 59) (v := x2 + 1) hC dX9_keenest_59 rfl (congrArg (HAdd.hAdd _) ic1) rfl (by decide) ?_
          refine aw_goto (pc := 62) (tgt := 4) hC dX9_keenest_62 (by decide) ?_
          exact ih x1 (x2 + 1)
        · skip
          refine aw_iload_n (pc := 27) (i := 1) hC dX9_keenest_27 rfl rfl ?_
          refine aw_iconst (pc := 28) (v := (-1)) hC dX9_keenest_28 icm1 ?_
          refine aw_icmp_eq (pc := 29) (tgt := 57) hC dX9_keenest_29 (by decide) (fun _ => ?_) (fun _ => ?_)
          · skip
            refine aw_iload_n (pc := 57) (i := 2) hC dX9_keenest_57 rfl rfl ?_
            refine aw_istore_n (pc := 58) (i := 1) hC dX9_keenest_58 rfl rfl (by decide) ?_
            refine aw_iinc (pc := 59) (v := x2 + 1) hC dX9_keenest_59 rfl (congrArg (HAdd.hAdd _) ic1) rfl (by decide) ?_
            refine aw_goto (pc := 62) (tgt := 4) hC dX9_keenest_62 (by decide) ?_
            exact ih x2 (x2 + 1)
          · skip
            refine aw_aload_n (pc := 32) (i := 0) hC dX9_keenest_32 rfl rfl ?_
            refine aw_get (pc := 33) hC inX9 (v0 (j := 0) (by decide)) rfl rfl 4 (by decide) kw280 rfl rfl dX9_keenest_33 ?_
            refine aw_get (pc := 36) hC inX2 (vH (h := 0) (j := 0) (by decide) (by decide)) rfl rfl 0 (by decide) kw186 rfl rfl dX9_keenest_36 ?_
            refine aw_iload_n (pc := 39) (i := 2) hC dX9_keenest_39 rfl rfl ?_
            refine aw_callVR (pc := 40) (As := [.int x2]) hC mb_X1_risk kw416 (by decide) (c_X1_risk G C.2.1 0 (by decide) μ x2) (vH (h := 0) (j := 1) (by decide) (by decide)) rfl rfl rfl (Nat.le_of_ble_eq_true rfl) dX9_keenest_40 (fun q4 => ?_)
            refine aw_aload_n (pc := 43) (i := 0) hC dX9_keenest_43 rfl rfl ?_
            refine aw_get (pc := 44) hC inX9 (v0 (j := 0) (by decide)) rfl rfl 4 (by decide) kw280 rfl rfl dX9_keenest_44 ?_
            refine aw_get (pc := 47) hC inX2 (vH (h := 0) (j := 0) (by decide) (by decide)) rfl rfl 0 (by decide) kw186 rfl rfl dX9_keenest_47 ?_
            refine aw_iload_n (pc := 50) (i := 1) hC dX9_keenest_50 rfl rfl ?_
            refine aw_callVR (pc := 51) (As := [.int x1]) hC mb_X1_risk kw416 (by decide) (c_X1_risk G C.2.1 0 (by decide) μ x1) (vH (h := 0) (j := 1) (by decide) (by decide)) rfl rfl rfl (Nat.le_of_ble_eq_true rfl) dX9_keenest_51 (fun q5 => ?_)
            refine aw_icmp_le (pc := 54) (tgt := 59) hC dX9_keenest_54 (by decide) (fun _ => ?_) (fun _ => ?_)
            · skip
              refine aw_iinc (pc := 59) (v := x2 + 1) hC dX9_keenest_59 rfl (congrArg (HAdd.hAdd _) ic1) rfl (by decide) ?_
              refine aw_goto (pc := 62) (tgt := 4) hC dX9_keenest_62 (by decide) ?_
              exact ih x1 (x2 + 1)
            · skip
              refine aw_iload_n (pc := 57) (i := 2) hC dX9_keenest_57 rfl rfl ?_
              refine aw_istore_n (pc := 58) (i := 1) hC dX9_keenest_58 rfl rfl (by decide) ?_
              refine aw_iinc (pc := 59) (v := x2 + 1) hC dX9_keenest_59 rfl (congrArg (HAdd.hAdd _) ic1) rfl (by decide) ?_
              refine aw_goto (pc := 62) (tgt := 4) hC dX9_keenest_62 (by decide) ?_
              exact ih x2 (x2 + 1)
  exact hL4 4096 (-1) 0
theorem dX9_alike_0 : decode cX9_alike 0 = .ok (.iconst 0, 1) := by decide +kernel
theorem dX9_alike_1 : decode cX9_alike 1 = .ok (.istore_n 1, 1) := by decide +kernel
theorem dX9_alike_2 : decode cX9_alike 2 = .ok (.iconst 0, 1) := by decide +kernel
theorem dX9_alike_3 : decode cX9_alike 3 = .ok (.istore_n 2, 1) := by decide +kernel
theorem dX9_alike_4 : decode cX9_alike 4 = .ok (.iload_n 2, 1) := by decide +kernel
theorem dX9_alike_5 : decode cX9_alike 5 = .ok (.aload_n 0, 1) := by decide +kernel
theorem dX9_alike_6 : decode cX9_alike 6 = .ok (.getfield 42, 3) := by decide +kernel
theorem dX9_alike_9 : decode cX9_alike 9 = .ok (.getfield 139, 3) := by decide +kernel
theorem dX9_alike_12 : decode cX9_alike 12 = .ok (.getfield 378, 3) := by decide +kernel
theorem dX9_alike_15 : decode cX9_alike 15 = .ok (.if_icmp .ge 86, 3) := by decide +kernel
theorem dX9_alike_18 : decode cX9_alike 18 = .ok (.iload_n 2, 1) := by decide +kernel
theorem dX9_alike_19 : decode cX9_alike 19 = .ok (.iconst 1, 1) := by decide +kernel
theorem dX9_alike_20 : decode cX9_alike 20 = .ok (.iadd, 1) := by decide +kernel
theorem dX9_alike_21 : decode cX9_alike 21 = .ok (.istore_n 3, 1) := by decide +kernel
theorem dX9_alike_22 : decode cX9_alike 22 = .ok (.iload_n 3, 1) := by decide +kernel
theorem dX9_alike_23 : decode cX9_alike 23 = .ok (.aload_n 0, 1) := by decide +kernel
theorem dX9_alike_24 : decode cX9_alike 24 = .ok (.getfield 42, 3) := by decide +kernel
theorem dX9_alike_27 : decode cX9_alike 27 = .ok (.getfield 139, 3) := by decide +kernel
theorem dX9_alike_30 : decode cX9_alike 30 = .ok (.getfield 378, 3) := by decide +kernel
theorem dX9_alike_33 : decode cX9_alike 33 = .ok (.if_icmp .ge 62, 3) := by decide +kernel
theorem dX9_alike_36 : decode cX9_alike 36 = .ok (.aload_n 0, 1) := by decide +kernel
theorem dX9_alike_37 : decode cX9_alike 37 = .ok (.getfield 42, 3) := by decide +kernel
theorem dX9_alike_40 : decode cX9_alike 40 = .ok (.getfield 139, 3) := by decide +kernel
theorem dX9_alike_43 : decode cX9_alike 43 = .ok (.iload_n 2, 1) := by decide +kernel
theorem dX9_alike_44 : decode cX9_alike 44 = .ok (.invokevirtual 149, 3) := by decide +kernel
theorem dX9_alike_47 : decode cX9_alike 47 = .ok (.aload_n 0, 1) := by decide +kernel
theorem dX9_alike_48 : decode cX9_alike 48 = .ok (.getfield 42, 3) := by decide +kernel
theorem dX9_alike_51 : decode cX9_alike 51 = .ok (.getfield 139, 3) := by decide +kernel
theorem dX9_alike_54 : decode cX9_alike 54 = .ok (.iload_n 3, 1) := by decide +kernel
theorem dX9_alike_55 : decode cX9_alike 55 = .ok (.invokevirtual 149, 3) := by decide +kernel
theorem dX9_alike_58 : decode cX9_alike 58 = .ok (.if_icmp .ne 31, 3) := by decide +kernel
theorem dX9_alike_61 : decode cX9_alike 61 = .ok (.aload_n 0, 1) := by decide +kernel
theorem dX9_alike_62 : decode cX9_alike 62 = .ok (.getfield 42, 3) := by decide +kernel
theorem dX9_alike_65 : decode cX9_alike 65 = .ok (.getfield 139, 3) := by decide +kernel
theorem dX9_alike_68 : decode cX9_alike 68 = .ok (.iload_n 2, 1) := by decide +kernel
theorem dX9_alike_69 : decode cX9_alike 69 = .ok (.invokevirtual 143, 3) := by decide +kernel
theorem dX9_alike_72 : decode cX9_alike 72 = .ok (.aload_n 0, 1) := by decide +kernel
theorem dX9_alike_73 : decode cX9_alike 73 = .ok (.getfield 42, 3) := by decide +kernel
theorem dX9_alike_76 : decode cX9_alike 76 = .ok (.getfield 139, 3) := by decide +kernel
theorem dX9_alike_79 : decode cX9_alike 79 = .ok (.iload_n 3, 1) := by decide +kernel
theorem dX9_alike_80 : decode cX9_alike 80 = .ok (.invokevirtual 143, 3) := by decide +kernel
theorem dX9_alike_83 : decode cX9_alike 83 = .ok (.if_icmp .ne 6, 3) := by decide +kernel
theorem dX9_alike_86 : decode cX9_alike 86 = .ok (.iinc 1 1, 3) := by decide +kernel
theorem dX9_alike_89 : decode cX9_alike 89 = .ok (.iinc 3 1, 3) := by decide +kernel
theorem dX9_alike_92 : decode cX9_alike 92 = .ok (.goto (-70), 3) := by decide +kernel
theorem dX9_alike_95 : decode cX9_alike 95 = .ok (.iinc 2 1, 3) := by decide +kernel
theorem dX9_alike_98 : decode cX9_alike 98 = .ok (.goto (-94), 3) := by decide +kernel
theorem dX9_alike_101 : decode cX9_alike 101 = .ok (.iload_n 1, 1) := by decide +kernel
theorem dX9_alike_102 : decode cX9_alike 102 = .ok (.ireturn, 1) := by decide +kernel
def lp_X9_alike_22 (μ : Mem) (x2 : Int32) (k95 : Int32 → Option (Int32)) : Nat → Int32 → Int32 → Option (Int32)
  | 0, _, _ => none
  | n + 1, x4, x5 => if (μ 1 1 3) ≤ x5 then (k95 x4) else ((f_X1_wishOf 0 μ x2).bind fun (q6 : Int32) => (f_X1_wishOf 0 μ x5).bind fun (q7 : Int32) => if q6 = q7 then ((f_X1_roomOf 0 μ x2).bind fun (q8 : Int32) => (f_X1_roomOf 0 μ x5).bind fun (q9 : Int32) => if q8 = q9 then (lp_X9_alike_22 μ x2 k95 n (x4 + 1) (x5 + 1)) else (lp_X9_alike_22 μ x2 k95 n x4 (x5 + 1))) else (lp_X9_alike_22 μ x2 k95 n x4 (x5 + 1)))
def lp_X9_alike_4 (μ : Mem) : Nat → Int32 → Int32 → Option (Int32)
  | 0, _, _ => none
  | n + 1, x1, x2 => if (μ 1 1 3) ≤ x2 then (some x1) else (lp_X9_alike_22 μ x2 (fun (x3 : Int32) => lp_X9_alike_4 μ n x3 (x2 + 1)) 4096 x1 (x2 + 1))
def f_X9_alike (μ : Mem) : Option (Int32) := lp_X9_alike_4 μ 4096 0 0
set_option maxHeartbeats 4000000 in
set_option maxRecDepth 100000 in
theorem c_X9_alike (G : GG) (l : Launch) (μ : Mem) : CR G l yX9_alike (.code yX9_alike cX9_alike 4 (some .int)) 3 [.ref (gad G 0 0)] μ (f_X9_alike μ) := by
  refine CR.of (own := "SaturdayKeep") (L0 := [some (.ref (gad G 0 0)), none, none, none]) rfl rfl rfl (Nat.le_of_ble_eq_true rfl) (fun C hl hC => ?_)
  subst hl
  delta f_X9_alike
  refine aw_iconst (pc := 0) (v := 0) hC dX9_alike_0 ic0 ?_
  refine aw_istore_n (pc := 1) (i := 1) hC dX9_alike_1 rfl rfl (by decide) ?_
  refine aw_iconst (pc := 2) (v := 0) hC dX9_alike_2 ic0 ?_
  refine aw_istore_n (pc := 3) (i := 2) hC dX9_alike_3 rfl rfl (by decide) ?_
  have hL4 : ∀ (n : Nat) (x1 : Int32) (x2 : Int32), AW G C (qR G C 0 0 μ) 0 0 4 μ 4 [some (.ref (gad G 0 0)), some (.int x1), some (.int x2), none] [] (lp_X9_alike_4 μ n x1 x2) := by
    intro n
    induction n with
    | zero => intro x1 x2; exact aw_none
    | succ n ih =>
      intro x1 x2
      rw [lp_X9_alike_4]
      refine aw_iload_n (pc := 4) (i := 2) hC dX9_alike_4 rfl rfl ?_
      refine aw_aload_n (pc := 5) (i := 0) hC dX9_alike_5 rfl rfl ?_
      refine aw_get (pc := 6) hC inX9 (v0 (j := 0) (by decide)) rfl rfl 4 (by decide) kw280 rfl rfl dX9_alike_6 ?_
      refine aw_get (pc := 9) hC inX2 (vH (h := 0) (j := 0) (by decide) (by decide)) rfl rfl 0 (by decide) kw186 rfl rfl dX9_alike_9 ?_
      refine aw_get (pc := 12) hC inX1 (vH (h := 0) (j := 1) (by decide) (by decide)) rfl rfl 3 (by decide) kw145 rfl rfl dX9_alike_12 ?_
      refine aw_icmp_ge (pc := 15) (tgt := 101) hC dX9_alike_15 (by decide) (fun _ => ?_) (fun _ => ?_)
      · skip
        refine aw_iload_n (pc := 101) (i := 1) hC dX9_alike_101 rfl rfl ?_
        exact aw_iretR hC dX9_alike_102
      · skip
        refine aw_iload_n (pc := 18) (i := 2) hC dX9_alike_18 rfl rfl ?_
        refine aw_iconst (pc := 19) (v := 1) hC dX9_alike_19 ic1 ?_
        refine aw_iadd (pc := 20) hC dX9_alike_20 ?_
        refine aw_istore_n (pc := 21) (i := 3) hC dX9_alike_21 rfl rfl (by decide) ?_
        have hL22 : ∀ (k95 : Int32 → Option (Int32)) (hk95 : ∀ (x3 : Int32), AW G C (qR G C 0 0 μ) 0 0 4 μ 95 [some (.ref (gad G 0 0)), some (.int x3), some (.int x2), none] [] (k95 x3)) (n : Nat) (x4 : Int32) (x5 : Int32), AW G C (qR G C 0 0 μ) 0 0 4 μ 22 [some (.ref (gad G 0 0)), some (.int x4), some (.int x2), some (.int x5)] [] (lp_X9_alike_22 μ x2 k95 n x4 x5) := by
          intro k95 hk95 n
          induction n with
          | zero => intro x4 x5; exact aw_none
          | succ n ih =>
            intro x4 x5
            rw [lp_X9_alike_22]
            refine aw_iload_n (pc := 22) (i := 3) hC dX9_alike_22 rfl rfl ?_
            refine aw_aload_n (pc := 23) (i := 0) hC dX9_alike_23 rfl rfl ?_
            refine aw_get (pc := 24) hC inX9 (v0 (j := 0) (by decide)) rfl rfl 4 (by decide) kw280 rfl rfl dX9_alike_24 ?_
            refine aw_get (pc := 27) hC inX2 (vH (h := 0) (j := 0) (by decide) (by decide)) rfl rfl 0 (by decide) kw186 rfl rfl dX9_alike_27 ?_
            refine aw_get (pc := 30) hC inX1 (vH (h := 0) (j := 1) (by decide) (by decide)) rfl rfl 3 (by decide) kw145 rfl rfl dX9_alike_30 ?_
            refine aw_icmp_ge (pc := 33) (tgt := 95) hC dX9_alike_33 (by decide) (fun _ => ?_) (fun _ => ?_)
            · skip
              exact aw_drop [3] (hk95 x4)
            · skip
              refine aw_aload_n (pc := 36) (i := 0) hC dX9_alike_36 rfl rfl ?_
              refine aw_get (pc := 37) hC inX9 (v0 (j := 0) (by decide)) rfl rfl 4 (by decide) kw280 rfl rfl dX9_alike_37 ?_
              refine aw_get (pc := 40) hC inX2 (vH (h := 0) (j := 0) (by decide) (by decide)) rfl rfl 0 (by decide) kw186 rfl rfl dX9_alike_40 ?_
              refine aw_iload_n (pc := 43) (i := 2) hC dX9_alike_43 rfl rfl ?_
              refine aw_callVR (pc := 44) (As := [.int x2]) hC mb_X1_wishOf kw529 (by decide) (c_X1_wishOf G C.2.1 0 (by decide) μ x2) (vH (h := 0) (j := 1) (by decide) (by decide)) rfl rfl rfl (Nat.le_of_ble_eq_true rfl) dX9_alike_44 (fun q6 => ?_)
              refine aw_aload_n (pc := 47) (i := 0) hC dX9_alike_47 rfl rfl ?_
              refine aw_get (pc := 48) hC inX9 (v0 (j := 0) (by decide)) rfl rfl 4 (by decide) kw280 rfl rfl dX9_alike_48 ?_
              refine aw_get (pc := 51) hC inX2 (vH (h := 0) (j := 0) (by decide) (by decide)) rfl rfl 0 (by decide) kw186 rfl rfl dX9_alike_51 ?_
              refine aw_iload_n (pc := 54) (i := 3) hC dX9_alike_54 rfl rfl ?_
              refine aw_callVR (pc := 55) (As := [.int x5]) hC mb_X1_wishOf kw529 (by decide) (c_X1_wishOf G C.2.1 0 (by decide) μ x5) (vH (h := 0) (j := 1) (by decide) (by decide)) rfl rfl rfl (Nat.le_of_ble_eq_true rfl) dX9_alike_55 (fun q7 => ?_)
              refine aw_icmp_ne (pc := 58) (tgt := 89) hC dX9_alike_58 (by decide) (fun _ => ?_) (fun _ => ?_)
              · skip
                refine aw_aload_n (pc := 61) (i := 0) hC dX9_alike_61 rfl rfl ?_
                refine aw_get (pc := 62) hC inX9 (v0 (j := 0) (by decide)) rfl rfl 4 (by decide) kw280 rfl rfl dX9_alike_62 ?_
                refine aw_get (pc := 65) hC inX2 (vH (h := 0) (j := 0) (by decide) (by decide)) rfl rfl 0 (by decide) kw186 rfl rfl dX9_alike_65 ?_
                refine aw_iload_n (pc := 68) (i := 2) hC dX9_alike_68 rfl rfl ?_
                refine aw_callVR (pc := 69) (As := [.int x2]) hC mb_X1_roomOf kw493 (by decide) (c_X1_roomOf G C.2.1 0 (by decide) μ x2) (vH (h := 0) (j := 1) (by decide) (by decide)) rfl rfl rfl (Nat.le_of_ble_eq_true rfl) dX9_alike_69 (fun q8 => ?_)
                refine aw_aload_n (pc := 72) (i := 0) hC dX9_alike_72 rfl rfl ?_
                refine aw_get (pc := 73) hC inX9 (v0 (j := 0) (by decide)) rfl rfl 4 (by decide) kw280 rfl rfl dX9_alike_73 ?_
                refine aw_get (pc := 76) hC inX2 (vH (h := 0) (j := 0) (by decide) (by decide)) rfl rfl 0 (by decide) kw186 rfl rfl dX9_alike_76 ?_
                refine aw_iload_n (pc := 79) (i := 3) hC dX9_alike_79 rfl rfl ?_
                refine aw_callVR (pc := 80) (As := [.int x5]) hC mb_X1_roomOf kw493 (by decide) (c_X1_roomOf G C.2.1 0 (by decide) μ x5) (vH (h := 0) (j := 1) (by decide) (by decide)) rfl rfl rfl (Nat.le_of_ble_eq_true rfl) dX9_alike_80 (fun q9 => ?_)
                refine aw_icmp_ne (pc := 83) (tgt := 89) hC dX9_alike_83 (by decide) (fun _ => ?_) (fun _ => ?_)
                · skip
                  refine aw_iinc (pc := 86) (v := x4 + 1) hC dX9_alike_86 rfl (congrArg (HAdd.hAdd _) ic1) rfl (by decide) ?_
                  refine aw_iinc (pc := 89) (v := x5 + 1) hC dX9_alike_89 rfl (congrArg (HAdd.hAdd _) ic1) rfl (by decide) ?_
                  refine aw_goto (pc := 92) (tgt := 22) hC dX9_alike_92 (by decide) ?_
                  exact ih (x4 + 1) (x5 + 1)
                · skip
                  refine aw_iinc (pc := 89) (v := x5 + 1) hC dX9_alike_89 rfl (congrArg (HAdd.hAdd _) ic1) rfl (by decide) ?_
                  refine aw_goto (pc := 92) (tgt := 22) hC dX9_alike_92 (by decide) ?_
                  exact ih x4 (x5 + 1)
              · skip
                refine aw_iinc (pc := 89) (v := x5 + 1) hC dX9_alike_89 rfl (congrArg (HAdd.hAdd _) ic1) rfl (by decide) ?_
                refine aw_goto (pc := 92) (tgt := 22) hC dX9_alike_92 (by decide) ?_
                exact ih x4 (x5 + 1)
        refine hL22 (fun (x3 : Int32) => lp_X9_alike_4 μ n x3 (x2 + 1)) (fun x3 => ?_) 4096 x1 (x2 + 1)
        · skip
          refine aw_iinc (pc := 95) (v := x2 + 1) hC dX9_alike_95 rfl (congrArg (HAdd.hAdd _) ic1) rfl (by decide) ?_
          refine aw_goto (pc := 98) (tgt := 4) hC dX9_alike_98 (by decide) ?_
          exact ih x3 (x2 + 1)
  exact hL4 4096 0 0
theorem dX9_well_0 : decode cX9_well 0 = .ok (.iconst (-1), 1) := by decide +kernel
theorem dX9_well_1 : decode cX9_well 1 = .ok (.istore_n 1, 1) := by decide +kernel
theorem dX9_well_2 : decode cX9_well 2 = .ok (.iconst 0, 1) := by decide +kernel
theorem dX9_well_3 : decode cX9_well 3 = .ok (.istore_n 2, 1) := by decide +kernel
theorem dX9_well_4 : decode cX9_well 4 = .ok (.iconst 0, 1) := by decide +kernel
theorem dX9_well_5 : decode cX9_well 5 = .ok (.istore_n 3, 1) := by decide +kernel
theorem dX9_well_6 : decode cX9_well 6 = .ok (.iload_n 3, 1) := by decide +kernel
theorem dX9_well_7 : decode cX9_well 7 = .ok (.bipush 8, 2) := by decide +kernel
theorem dX9_well_9 : decode cX9_well 9 = .ok (.if_icmp .ge 33, 3) := by decide +kernel
theorem dX9_well_12 : decode cX9_well 12 = .ok (.aload_n 0, 1) := by decide +kernel
theorem dX9_well_13 : decode cX9_well 13 = .ok (.getfield 42, 3) := by decide +kernel
theorem dX9_well_16 : decode cX9_well 16 = .ok (.iload_n 3, 1) := by decide +kernel
theorem dX9_well_17 : decode cX9_well 17 = .ok (.invokevirtual 193, 3) := by decide +kernel
theorem dX9_well_20 : decode cX9_well 20 = .ok (.invokestatic 317, 3) := by decide +kernel
theorem dX9_well_23 : decode cX9_well 23 = .ok (.istore 4, 2) := by decide +kernel
theorem dX9_well_25 : decode cX9_well 25 = .ok (.iload 4, 2) := by decide +kernel
theorem dX9_well_27 : decode cX9_well 27 = .ok (.iload_n 2, 1) := by decide +kernel
theorem dX9_well_28 : decode cX9_well 28 = .ok (.if_icmp .le 8, 3) := by decide +kernel
theorem dX9_well_31 : decode cX9_well 31 = .ok (.iload 4, 2) := by decide +kernel
theorem dX9_well_33 : decode cX9_well 33 = .ok (.istore_n 2, 1) := by decide +kernel
theorem dX9_well_34 : decode cX9_well 34 = .ok (.iload_n 3, 1) := by decide +kernel
theorem dX9_well_35 : decode cX9_well 35 = .ok (.istore_n 1, 1) := by decide +kernel
theorem dX9_well_36 : decode cX9_well 36 = .ok (.iinc 3 1, 3) := by decide +kernel
theorem dX9_well_39 : decode cX9_well 39 = .ok (.goto (-33), 3) := by decide +kernel
theorem dX9_well_42 : decode cX9_well 42 = .ok (.iload_n 1, 1) := by decide +kernel
theorem dX9_well_43 : decode cX9_well 43 = .ok (.ireturn, 1) := by decide +kernel
def lp_X9_well_6 (μ : Mem) : Nat → Int32 → Int32 → Int32 → Option (Int32)
  | 0, _, _, _ => none
  | n + 1, x1, x2, x3 => if 8 ≤ x3 then (some x1) else ((f_X2_holesInto 0 μ x3).bind fun (q4 : Int32) => (f_J6_bitCount_0f7a4 q4).bind fun (q5 : Int32) => if q5 ≤ x2 then (lp_X9_well_6 μ n x1 x2 (x3 + 1)) else (lp_X9_well_6 μ n x3 q5 (x3 + 1)))
def f_X9_well (μ : Mem) : Option (Int32) := lp_X9_well_6 μ 4096 (-1) 0 0
set_option maxHeartbeats 4000000 in
set_option maxRecDepth 100000 in
theorem c_X9_well (G : GG) (l : Launch) (μ : Mem) : CR G l yX9_well (.code yX9_well cX9_well 5 (some .int)) 3 [.ref (gad G 0 0)] μ (f_X9_well μ) := by
  refine CR.of (own := "SaturdayKeep") (L0 := [some (.ref (gad G 0 0)), none, none, none, none]) rfl rfl rfl (Nat.le_of_ble_eq_true rfl) (fun C hl hC => ?_)
  subst hl
  delta f_X9_well
  refine aw_iconst (pc := 0) (v := (-1)) hC dX9_well_0 icm1 ?_
  refine aw_istore_n (pc := 1) (i := 1) hC dX9_well_1 rfl rfl (by decide) ?_
  refine aw_iconst (pc := 2) (v := 0) hC dX9_well_2 ic0 ?_
  refine aw_istore_n (pc := 3) (i := 2) hC dX9_well_3 rfl rfl (by decide) ?_
  refine aw_iconst (pc := 4) (v := 0) hC dX9_well_4 ic0 ?_
  refine aw_istore_n (pc := 5) (i := 3) hC dX9_well_5 rfl rfl (by decide) ?_
  have hL6 : ∀ (n : Nat) (x1 : Int32) (x2 : Int32) (x3 : Int32), AW G C (qR G C 0 0 μ) 0 0 5 μ 6 [some (.ref (gad G 0 0)), some (.int x1), some (.int x2), some (.int x3), none] [] (lp_X9_well_6 μ n x1 x2 x3) := by
    intro n
    induction n with
    | zero => intro x1 x2 x3; exact aw_none
    | succ n ih =>
      intro x1 x2 x3
      rw [lp_X9_well_6]
      refine aw_iload_n (pc := 6) (i := 3) hC dX9_well_6 rfl rfl ?_
      refine aw_bipush (pc := 7) (v := 8) hC dX9_well_7 bc8 ?_
      refine aw_icmp_ge (pc := 9) (tgt := 42) hC dX9_well_9 (by decide) (fun _ => ?_) (fun _ => ?_)
      · skip
        refine aw_iload_n (pc := 42) (i := 1) hC dX9_well_42 rfl rfl ?_
        exact aw_iretR hC dX9_well_43
      · skip
        refine aw_aload_n (pc := 12) (i := 0) hC dX9_well_12 rfl rfl ?_
        refine aw_get (pc := 13) hC inX9 (v0 (j := 0) (by decide)) rfl rfl 4 (by decide) kw280 rfl rfl dX9_well_13 ?_
        refine aw_iload_n (pc := 16) (i := 3) hC dX9_well_16 rfl rfl ?_
        refine aw_callVR (pc := 17) (As := [.int x3]) hC mb_X2_holesInto kw439 (by decide) (c_X2_holesInto G C.2.1 0 (by decide) μ x3) (vH (h := 0) (j := 0) (by decide) (by decide)) rfl rfl rfl (Nat.le_of_ble_eq_true rfl) dX9_well_17 (fun q4 => ?_)
        refine aw_callSR (pc := 20) (As := [.int q4]) hC ms_J6_bitCount_0f7a4 kw453 (by decide) (c_J6_bitCount_0f7a4 G C.2.1   μ q4) rfl (Nat.le_of_ble_eq_true rfl) dX9_well_20 (fun q5 => ?_)
        refine aw_istore (pc := 23) hC dX9_well_23 rfl (by decide) ?_
        refine aw_iload (pc := 25) hC dX9_well_25 rfl ?_
        refine aw_iload_n (pc := 27) (i := 2) hC dX9_well_27 rfl rfl ?_
        refine aw_icmp_le (pc := 28) (tgt := 36) hC dX9_well_28 (by decide) (fun _ => ?_) (fun _ => ?_)
        · skip
          refine aw_iinc (pc := 36) (v := x3 + 1) hC dX9_well_36 rfl (congrArg (HAdd.hAdd _) ic1) rfl (by decide) ?_
          refine aw_goto (pc := 39) (tgt := 6) hC dX9_well_39 (by decide) ?_
          exact aw_drop [4] (ih x1 x2 (x3 + 1))
        · skip
          refine aw_iload (pc := 31) hC dX9_well_31 rfl ?_
          refine aw_istore_n (pc := 33) (i := 2) hC dX9_well_33 rfl rfl (by decide) ?_
          refine aw_iload_n (pc := 34) (i := 3) hC dX9_well_34 rfl rfl ?_
          refine aw_istore_n (pc := 35) (i := 1) hC dX9_well_35 rfl rfl (by decide) ?_
          refine aw_iinc (pc := 36) (v := x3 + 1) hC dX9_well_36 rfl (congrArg (HAdd.hAdd _) ic1) rfl (by decide) ?_
          refine aw_goto (pc := 39) (tgt := 6) hC dX9_well_39 (by decide) ?_
          exact aw_drop [4] (ih x3 q5 (x3 + 1))
  exact hL6 4096 (-1) 0 0
theorem dX9_crowd_0 : decode cX9_crowd 0 = .ok (.iconst (-1), 1) := by decide +kernel
theorem dX9_crowd_1 : decode cX9_crowd 1 = .ok (.istore_n 1, 1) := by decide +kernel
theorem dX9_crowd_2 : decode cX9_crowd 2 = .ok (.iconst 0, 1) := by decide +kernel
theorem dX9_crowd_3 : decode cX9_crowd 3 = .ok (.istore_n 2, 1) := by decide +kernel
theorem dX9_crowd_4 : decode cX9_crowd 4 = .ok (.iconst 0, 1) := by decide +kernel
theorem dX9_crowd_5 : decode cX9_crowd 5 = .ok (.istore_n 3, 1) := by decide +kernel
theorem dX9_crowd_6 : decode cX9_crowd 6 = .ok (.iload_n 3, 1) := by decide +kernel
theorem dX9_crowd_7 : decode cX9_crowd 7 = .ok (.bipush 8, 2) := by decide +kernel
theorem dX9_crowd_9 : decode cX9_crowd 9 = .ok (.if_icmp .ge 36, 3) := by decide +kernel
theorem dX9_crowd_12 : decode cX9_crowd 12 = .ok (.aload_n 0, 1) := by decide +kernel
theorem dX9_crowd_13 : decode cX9_crowd 13 = .ok (.getfield 42, 3) := by decide +kernel
theorem dX9_crowd_16 : decode cX9_crowd 16 = .ok (.getfield 139, 3) := by decide +kernel
theorem dX9_crowd_19 : decode cX9_crowd 19 = .ok (.iload_n 3, 1) := by decide +kernel
theorem dX9_crowd_20 : decode cX9_crowd 20 = .ok (.invokevirtual 196, 3) := by decide +kernel
theorem dX9_crowd_23 : decode cX9_crowd 23 = .ok (.invokestatic 317, 3) := by decide +kernel
theorem dX9_crowd_26 : decode cX9_crowd 26 = .ok (.istore 4, 2) := by decide +kernel
theorem dX9_crowd_28 : decode cX9_crowd 28 = .ok (.iload 4, 2) := by decide +kernel
theorem dX9_crowd_30 : decode cX9_crowd 30 = .ok (.iload_n 2, 1) := by decide +kernel
theorem dX9_crowd_31 : decode cX9_crowd 31 = .ok (.if_icmp .le 8, 3) := by decide +kernel
theorem dX9_crowd_34 : decode cX9_crowd 34 = .ok (.iload 4, 2) := by decide +kernel
theorem dX9_crowd_36 : decode cX9_crowd 36 = .ok (.istore_n 2, 1) := by decide +kernel
theorem dX9_crowd_37 : decode cX9_crowd 37 = .ok (.iload_n 3, 1) := by decide +kernel
theorem dX9_crowd_38 : decode cX9_crowd 38 = .ok (.istore_n 1, 1) := by decide +kernel
theorem dX9_crowd_39 : decode cX9_crowd 39 = .ok (.iinc 3 1, 3) := by decide +kernel
theorem dX9_crowd_42 : decode cX9_crowd 42 = .ok (.goto (-36), 3) := by decide +kernel
theorem dX9_crowd_45 : decode cX9_crowd 45 = .ok (.iload_n 1, 1) := by decide +kernel
theorem dX9_crowd_46 : decode cX9_crowd 46 = .ok (.ireturn, 1) := by decide +kernel
def lp_X9_crowd_6 (μ : Mem) : Nat → Int32 → Int32 → Int32 → Option (Int32)
  | 0, _, _, _ => none
  | n + 1, x1, x2, x3 => if 8 ≤ x3 then (some x1) else ((f_X1_hereIn 0 μ x3).bind fun (q4 : Int32) => (f_J6_bitCount_0f7a4 q4).bind fun (q5 : Int32) => if q5 ≤ x2 then (lp_X9_crowd_6 μ n x1 x2 (x3 + 1)) else (lp_X9_crowd_6 μ n x3 q5 (x3 + 1)))
def f_X9_crowd (μ : Mem) : Option (Int32) := lp_X9_crowd_6 μ 4096 (-1) 0 0
set_option maxHeartbeats 4000000 in
set_option maxRecDepth 100000 in
theorem c_X9_crowd (G : GG) (l : Launch) (μ : Mem) : CR G l yX9_crowd (.code yX9_crowd cX9_crowd 5 (some .int)) 3 [.ref (gad G 0 0)] μ (f_X9_crowd μ) := by
  refine CR.of (own := "SaturdayKeep") (L0 := [some (.ref (gad G 0 0)), none, none, none, none]) rfl rfl rfl (Nat.le_of_ble_eq_true rfl) (fun C hl hC => ?_)
  subst hl
  delta f_X9_crowd
  refine aw_iconst (pc := 0) (v := (-1)) hC dX9_crowd_0 icm1 ?_
  refine aw_istore_n (pc := 1) (i := 1) hC dX9_crowd_1 rfl rfl (by decide) ?_
  refine aw_iconst (pc := 2) (v := 0) hC dX9_crowd_2 ic0 ?_
  refine aw_istore_n (pc := 3) (i := 2) hC dX9_crowd_3 rfl rfl (by decide) ?_
  refine aw_iconst (pc := 4) (v := 0) hC dX9_crowd_4 ic0 ?_
  refine aw_istore_n (pc := 5) (i := 3) hC dX9_crowd_5 rfl rfl (by decide) ?_
  have hL6 : ∀ (n : Nat) (x1 : Int32) (x2 : Int32) (x3 : Int32), AW G C (qR G C 0 0 μ) 0 0 5 μ 6 [some (.ref (gad G 0 0)), some (.int x1), some (.int x2), some (.int x3), none] [] (lp_X9_crowd_6 μ n x1 x2 x3) := by
    intro n
    induction n with
    | zero => intro x1 x2 x3; exact aw_none
    | succ n ih =>
      intro x1 x2 x3
      rw [lp_X9_crowd_6]
      refine aw_iload_n (pc := 6) (i := 3) hC dX9_crowd_6 rfl rfl ?_
      refine aw_bipush (pc := 7) (v := 8) hC dX9_crowd_7 bc8 ?_
      refine aw_icmp_ge (pc := 9) (tgt := 45) hC dX9_crowd_9 (by decide) (fun _ => ?_) (fun _ => ?_)
      · skip
        refine aw_iload_n (pc := 45) (i := 1) hC dX9_crowd_45 rfl rfl ?_
        exact aw_iretR hC dX9_crowd_46
      · skip
        refine aw_aload_n (pc := 12) (i := 0) hC dX9_crowd_12 rfl rfl ?_
        refine aw_get (pc := 13) hC inX9 (v0 (j := 0) (by decide)) rfl rfl 4 (by decide) kw280 rfl rfl dX9_crowd_13 ?_
        refine aw_get (pc := 16) hC inX2 (vH (h := 0) (j := 0) (by decide) (by decide)) rfl rfl 0 (by decide) kw186 rfl rfl dX9_crowd_16 ?_
        refine aw_iload_n (pc := 19) (i := 3) hC dX9_crowd_19 rfl rfl ?_
        refine aw_callVR (pc := 20) (As := [.int x3]) hC mb_X1_hereIn kw538 (by decide) (c_X1_hereIn G C.2.1 0 (by decide) μ x3) (vH (h := 0) (j := 1) (by decide) (by decide)) rfl rfl rfl (Nat.le_of_ble_eq_true rfl) dX9_crowd_20 (fun q4 => ?_)
        refine aw_callSR (pc := 23) (As := [.int q4]) hC ms_J6_bitCount_0f7a4 kw453 (by decide) (c_J6_bitCount_0f7a4 G C.2.1   μ q4) rfl (Nat.le_of_ble_eq_true rfl) dX9_crowd_23 (fun q5 => ?_)
        refine aw_istore (pc := 26) hC dX9_crowd_26 rfl (by decide) ?_
        refine aw_iload (pc := 28) hC dX9_crowd_28 rfl ?_
        refine aw_iload_n (pc := 30) (i := 2) hC dX9_crowd_30 rfl rfl ?_
        refine aw_icmp_le (pc := 31) (tgt := 39) hC dX9_crowd_31 (by decide) (fun _ => ?_) (fun _ => ?_)
        · skip
          refine aw_iinc (pc := 39) (v := x3 + 1) hC dX9_crowd_39 rfl (congrArg (HAdd.hAdd _) ic1) rfl (by decide) ?_
          refine aw_goto (pc := 42) (tgt := 6) hC dX9_crowd_42 (by decide) ?_
          exact aw_drop [4] (ih x1 x2 (x3 + 1))
        · skip
          refine aw_iload (pc := 34) hC dX9_crowd_34 rfl ?_
          refine aw_istore_n (pc := 36) (i := 2) hC dX9_crowd_36 rfl rfl (by decide) ?_
          refine aw_iload_n (pc := 37) (i := 3) hC dX9_crowd_37 rfl rfl ?_
          refine aw_istore_n (pc := 38) (i := 1) hC dX9_crowd_38 rfl rfl (by decide) ?_
          refine aw_iinc (pc := 39) (v := x3 + 1) hC dX9_crowd_39 rfl (congrArg (HAdd.hAdd _) ic1) rfl (by decide) ?_
          refine aw_goto (pc := 42) (tgt := 6) hC dX9_crowd_42 (by decide) ?_
          exact aw_drop [4] (ih x3 q5 (x3 + 1))
  exact hL6 4096 (-1) 0 0
theorem dX9_seed_0 : decode cX9_seed 0 = .ok (.aload_n 0, 1) := by decide +kernel
theorem dX9_seed_1 : decode cX9_seed 1 = .ok (.getfield 42, 3) := by decide +kernel
theorem dX9_seed_4 : decode cX9_seed 4 = .ok (.getfield 393, 3) := by decide +kernel
theorem dX9_seed_7 : decode cX9_seed 7 = .ok (.istore_n 2, 1) := by decide +kernel
theorem dX9_seed_8 : decode cX9_seed 8 = .ok (.aload_n 0, 1) := by decide +kernel
theorem dX9_seed_9 : decode cX9_seed 9 = .ok (.getfield 42, 3) := by decide +kernel
theorem dX9_seed_12 : decode cX9_seed 12 = .ok (.iload_n 1, 1) := by decide +kernel
theorem dX9_seed_13 : decode cX9_seed 13 = .ok (.putfield 393, 3) := by decide +kernel
theorem dX9_seed_16 : decode cX9_seed 16 = .ok (.iload_n 2, 1) := by decide +kernel
theorem dX9_seed_17 : decode cX9_seed 17 = .ok (.ireturn, 1) := by decide +kernel
def f_X9_seed (μ : Mem) (a1 : Int32) : Option (Int32 × Mem) := nm (upm μ 1 0 15 a1) fun (μ1 : Mem) => some ((μ 1 0 15), μ1)
set_option maxHeartbeats 4000000 in
set_option maxRecDepth 100000 in
theorem c_X9_seed (G : GG) (l : Launch) (μ : Mem) (a1 : Int32) : CI G l yX9_seed (.code yX9_seed cX9_seed 3 (some .int)) 1 [.ref (gad G 0 0), .int a1] μ (f_X9_seed μ a1) := by
  refine CI.of (own := "SaturdayKeep") (L0 := [some (.ref (gad G 0 0)), some (.int a1), none]) rfl rfl rfl (Nat.le_of_ble_eq_true rfl) (fun C hl hC => ?_)
  subst hl
  delta f_X9_seed
  refine aw_aload_n (pc := 0) (i := 0) hC dX9_seed_0 rfl rfl ?_
  refine aw_get (pc := 1) hC inX9 (v0 (j := 0) (by decide)) rfl rfl 4 (by decide) kw280 rfl rfl dX9_seed_1 ?_
  refine aw_get (pc := 4) hC inX2 (vH (h := 0) (j := 0) (by decide) (by decide)) rfl rfl 15 (by decide) kw218 rfl rfl dX9_seed_4 ?_
  refine aw_istore_n (pc := 7) (i := 2) hC dX9_seed_7 rfl rfl (by decide) ?_
  refine aw_aload_n (pc := 8) (i := 0) hC dX9_seed_8 rfl rfl ?_
  refine aw_get (pc := 9) hC inX9 (v0 (j := 0) (by decide)) rfl rfl 4 (by decide) kw280 rfl rfl dX9_seed_9 ?_
  refine aw_iload_n (pc := 12) (i := 1) hC dX9_seed_12 rfl rfl ?_
  refine aw_putIN (pc := 13) hC inX2 (vH (h := 0) (j := 0) (by decide) (by decide)) rfl rfl 15 (by decide) kw218 rfl tyX2 tyX2_ok nmX2 rfl rfl (Nat.le_of_ble_eq_true rfl) rfl dX9_seed_13 (fun μ1 => ?_)
  refine aw_iload_n (pc := 16) (i := 2) hC dX9_seed_16 rfl rfl ?_
  exact aw_iret hC dX9_seed_17
theorem dX9_undo_0 : decode cX9_undo 0 = .ok (.aload_n 0, 1) := by decide +kernel
theorem dX9_undo_1 : decode cX9_undo 1 = .ok (.getfield 55, 3) := by decide +kernel
theorem dX9_undo_4 : decode cX9_undo 4 = .ok (.aload_n 0, 1) := by decide +kernel
theorem dX9_undo_5 : decode cX9_undo 5 = .ok (.getfield 42, 3) := by decide +kernel
theorem dX9_undo_8 : decode cX9_undo 8 = .ok (.invokevirtual 413, 3) := by decide +kernel
theorem dX9_undo_11 : decode cX9_undo 11 = .ok (.ireturn, 1) := by decide +kernel
def f_X9_undo (μ : Mem) : Option (Int32 × Mem) := (f_X6_takeBack 0 μ).bind fun (q1 : Int32 × Mem) => bk q1.1 (some (q1.1, q1.2))
set_option maxHeartbeats 4000000 in
set_option maxRecDepth 100000 in
theorem c_X9_undo (G : GG) (l : Launch) (μ : Mem) : CI G l yX9_undo (.code yX9_undo cX9_undo 1 (some .boolean)) 5 [.ref (gad G 0 0)] μ (f_X9_undo μ) := by
  refine CI.of (own := "SaturdayKeep") (L0 := [some (.ref (gad G 0 0))]) rfl rfl rfl (Nat.le_of_ble_eq_true rfl) (fun C hl hC => ?_)
  subst hl
  delta f_X9_undo
  refine aw_aload_n (pc := 0) (i := 0) hC dX9_undo_0 rfl rfl ?_
  refine aw_get (pc := 1) hC inX9 (v0 (j := 0) (by decide)) rfl rfl 7 (by decide) kw283 rfl rfl dX9_undo_1 ?_
  refine aw_aload_n (pc := 4) (i := 0) hC dX9_undo_4 rfl rfl ?_
  refine aw_get (pc := 5) hC inX9 (v0 (j := 0) (by decide)) rfl rfl 4 (by decide) kw280 rfl rfl dX9_undo_5 ?_
  refine aw_callVI (pc := 8) (As := [.ref (gad G 1 0)]) hC mb_X6_takeBack kw547 (by decide) (c_X6_takeBack G C.2.1 0 (by decide) μ ) (v0 (j := 9) (by decide)) rfl rfl rfl (Nat.le_of_ble_eq_true rfl) dX9_undo_8 (fun q1 => ?_)
  exact aw_zret hC dX9_undo_11
theorem dX9_image_0 : decode cX9_image 0 = .ok (.aload_n 0, 1) := by decide +kernel
theorem dX9_image_1 : decode cX9_image 1 = .ok (.getfield 49, 3) := by decide +kernel
theorem dX9_image_4 : decode cX9_image 4 = .ok (.aload_n 0, 1) := by decide +kernel
theorem dX9_image_5 : decode cX9_image 5 = .ok (.getfield 42, 3) := by decide +kernel
theorem dX9_image_8 : decode cX9_image 8 = .ok (.invokevirtual 82, 3) := by decide +kernel
theorem dX9_image_11 : decode cX9_image 11 = .ok (.aload_n 0, 1) := by decide +kernel
theorem dX9_image_12 : decode cX9_image 12 = .ok (.iconst 1, 1) := by decide +kernel
theorem dX9_image_13 : decode cX9_image 13 = .ok (.putfield 63, 3) := by decide +kernel
theorem dX9_image_16 : decode cX9_image 16 = .ok (.return_, 1) := by decide +kernel
def f_X9_image (μ : Mem) : Option (Mem) := (f_X2_copy 2 0 μ).bind fun (q1 : Mem) => bk 1 (nm (upm q1 0 0 9 1) fun (μ2 : Mem) => some μ2)
set_option maxHeartbeats 4000000 in
set_option maxRecDepth 100000 in
theorem c_X9_image (G : GG) (l : Launch) (μ : Mem) : CV G l yX9_image (.code yX9_image cX9_image 1 none) 4 [.ref (gad G 0 0)] μ (f_X9_image μ) := by
  refine CV.of (own := "SaturdayKeep") (L0 := [some (.ref (gad G 0 0))]) rfl rfl rfl (Nat.le_of_ble_eq_true rfl) (fun C hl hC => ?_)
  subst hl
  delta f_X9_image
  refine aw_aload_n (pc := 0) (i := 0) hC dX9_image_0 rfl rfl ?_
  refine aw_get (pc := 1) hC inX9 (v0 (j := 0) (by decide)) rfl rfl 6 (by decide) kw282 rfl rfl dX9_image_1 ?_
  refine aw_aload_n (pc := 4) (i := 0) hC dX9_image_4 rfl rfl ?_
  refine aw_get (pc := 5) hC inX9 (v0 (j := 0) (by decide)) rfl rfl 4 (by decide) kw280 rfl rfl dX9_image_5 ?_
  refine aw_callVV (pc := 8) (As := [.ref (gad G 1 0)]) hC mb_X2_copy kw346 (by decide) (c_X2_copy G C.2.1 2 0 (by decide) (by decide) μ ) (vH (h := 2) (j := 0) (by decide) (by decide)) rfl rfl rfl (Nat.le_of_ble_eq_true rfl) dX9_image_8 (fun q1 => ?_)
  refine aw_aload_n (pc := 11) (i := 0) hC dX9_image_11 rfl rfl ?_
  refine aw_iconst (pc := 12) (v := 1) hC dX9_image_12 ic1 ?_
  refine aw_putZN (pc := 13) hC inX9 (v0 (j := 0) (by decide)) rfl rfl 9 (by decide) kw285 rfl tyX9 tyX9_ok nmX9 rfl rfl (Nat.le_of_ble_eq_true rfl) rfl dX9_image_13 (fun μ2 => ?_)
  exact aw_vret hC dX9_image_16
theorem dX9_back_0 : decode cX9_back 0 = .ok (.aload_n 0, 1) := by decide +kernel
theorem dX9_back_1 : decode cX9_back 1 = .ok (.getfield 63, 3) := by decide +kernel
theorem dX9_back_4 : decode cX9_back 4 = .ok (.ifCond .ne 5, 3) := by decide +kernel
theorem dX9_back_7 : decode cX9_back 7 = .ok (.iconst 0, 1) := by decide +kernel
theorem dX9_back_8 : decode cX9_back 8 = .ok (.ireturn, 1) := by decide +kernel
theorem dX9_back_9 : decode cX9_back 9 = .ok (.aload_n 0, 1) := by decide +kernel
theorem dX9_back_10 : decode cX9_back 10 = .ok (.getfield 42, 3) := by decide +kernel
theorem dX9_back_13 : decode cX9_back 13 = .ok (.aload_n 0, 1) := by decide +kernel
theorem dX9_back_14 : decode cX9_back 14 = .ok (.getfield 49, 3) := by decide +kernel
theorem dX9_back_17 : decode cX9_back 17 = .ok (.invokevirtual 82, 3) := by decide +kernel
theorem dX9_back_20 : decode cX9_back 20 = .ok (.aload_n 0, 1) := by decide +kernel
theorem dX9_back_21 : decode cX9_back 21 = .ok (.getfield 55, 3) := by decide +kernel
theorem dX9_back_24 : decode cX9_back 24 = .ok (.invokevirtual 108, 3) := by decide +kernel
theorem dX9_back_27 : decode cX9_back 27 = .ok (.iconst 1, 1) := by decide +kernel
theorem dX9_back_28 : decode cX9_back 28 = .ok (.ireturn, 1) := by decide +kernel
def f_X9_back (μ : Mem) : Option (Int32 × Mem) := if (μ 0 0 9) = 0 then (some (0, μ)) else ((f_X2_copy 0 2 μ).bind fun (q1 : Mem) => (f_X6_forget q1).bind fun (q2 : Mem) => some (1, q2))
set_option maxHeartbeats 4000000 in
set_option maxRecDepth 100000 in
theorem c_X9_back (G : GG) (l : Launch) (μ : Mem) : CI G l yX9_back (.code yX9_back cX9_back 1 (some .boolean)) 4 [.ref (gad G 0 0)] μ (f_X9_back μ) := by
  refine CI.of (own := "SaturdayKeep") (L0 := [some (.ref (gad G 0 0))]) rfl rfl rfl (Nat.le_of_ble_eq_true rfl) (fun C hl hC => ?_)
  subst hl
  delta f_X9_back
  refine aw_aload_n (pc := 0) (i := 0) hC dX9_back_0 rfl rfl ?_
  refine aw_get (pc := 1) hC inX9 (v0 (j := 0) (by decide)) rfl rfl 9 (by decide) kw285 rfl rfl dX9_back_1 ?_
  refine aw_if_ne (pc := 4) (tgt := 9) hC dX9_back_4 (by decide) (fun _ => ?_) (fun _ => ?_)
  · skip
    refine aw_iconst (pc := 7) (v := 0) hC dX9_back_7 ic0 ?_
    exact aw_zret0 hC dX9_back_8
  · skip
    refine aw_aload_n (pc := 9) (i := 0) hC dX9_back_9 rfl rfl ?_
    refine aw_get (pc := 10) hC inX9 (v0 (j := 0) (by decide)) rfl rfl 4 (by decide) kw280 rfl rfl dX9_back_10 ?_
    refine aw_aload_n (pc := 13) (i := 0) hC dX9_back_13 rfl rfl ?_
    refine aw_get (pc := 14) hC inX9 (v0 (j := 0) (by decide)) rfl rfl 6 (by decide) kw282 rfl rfl dX9_back_14 ?_
    refine aw_callVV (pc := 17) (As := [.ref (gad G 3 0)]) hC mb_X2_copy kw346 (by decide) (c_X2_copy G C.2.1 0 2 (by decide) (by decide) μ ) (vH (h := 0) (j := 0) (by decide) (by decide)) rfl rfl rfl (Nat.le_of_ble_eq_true rfl) dX9_back_17 (fun q1 => ?_)
    refine aw_aload_n (pc := 20) (i := 0) hC dX9_back_20 rfl rfl ?_
    refine aw_get (pc := 21) hC inX9 (v0 (j := 0) (by decide)) rfl rfl 7 (by decide) kw283 rfl rfl dX9_back_21 ?_
    refine aw_callVV (pc := 24) (As := []) hC mb_X6_forget kw560 (by decide) (c_X6_forget G C.2.1   q1 ) (v0 (j := 9) (by decide)) rfl rfl rfl (Nat.le_of_ble_eq_true rfl) dX9_back_24 (fun q2 => ?_)
    refine aw_iconst (pc := 27) (v := 1) hC dX9_back_27 ic1 ?_
    exact aw_zret1 hC dX9_back_28
