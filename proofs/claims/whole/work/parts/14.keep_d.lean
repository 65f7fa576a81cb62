theorem dX9_led_0 : decode cX9_led 0 = .ok (.aload_n 0, 1) := by decide +kernel
theorem dX9_led_1 : decode cX9_led 1 = .ok (.iload_n 1, 1) := by decide +kernel
theorem dX9_led_2 : decode cX9_led 2 = .ok (.invokevirtual 130, 3) := by decide +kernel
theorem dX9_led_5 : decode cX9_led 5 = .ok (.ifCond .ne 13, 3) := by decide +kernel
theorem dX9_led_8 : decode cX9_led 8 = .ok (.new 134, 3) := by decide +kernel
theorem dX9_led_11 : decode cX9_led 11 = .ok (.dup, 1) := by decide +kernel
theorem dX9_led_12 : decode cX9_led 12 = .ok (.ldc 136, 2) := by decide +kernel
theorem dX9_led_14 : decode cX9_led 14 = .ok (.invokespecial 138, 3) := by decide +kernel
theorem dX9_led_17 : decode cX9_led 17 = .ok (.athrow, 1) := by decide +kernel
theorem dX9_led_18 : decode cX9_led 18 = .ok (.iload_n 2, 1) := by decide +kernel
theorem dX9_led_19 : decode cX9_led 19 = .ok (.ifCond .eq 17, 3) := by decide +kernel
theorem dX9_led_22 : decode cX9_led 22 = .ok (.aload_n 0, 1) := by decide +kernel
theorem dX9_led_23 : decode cX9_led 23 = .ok (.getfield 42, 3) := by decide +kernel
theorem dX9_led_26 : decode cX9_led 26 = .ok (.getfield 396, 3) := by decide +kernel
theorem dX9_led_29 : decode cX9_led 29 = .ok (.iload_n 1, 1) := by decide +kernel
theorem dX9_led_30 : decode cX9_led 30 = .ok (.invokevirtual 400, 3) := by decide +kernel
theorem dX9_led_33 : decode cX9_led 33 = .ok (.goto 14, 3) := by decide +kernel
theorem dX9_led_36 : decode cX9_led 36 = .ok (.aload_n 0, 1) := by decide +kernel
theorem dX9_led_37 : decode cX9_led 37 = .ok (.getfield 42, 3) := by decide +kernel
theorem dX9_led_40 : decode cX9_led 40 = .ok (.getfield 396, 3) := by decide +kernel
theorem dX9_led_43 : decode cX9_led 43 = .ok (.iload_n 1, 1) := by decide +kernel
theorem dX9_led_44 : decode cX9_led 44 = .ok (.invokevirtual 405, 3) := by decide +kernel
theorem dX9_led_47 : decode cX9_led 47 = .ok (.ireturn, 1) := by decide +kernel
def f_X9_led (μ : Mem) (a1 : Int32) (a2 : Int32) : Option (Nat × Int32 × Mem) := (f_X9_isGuest μ a1).bind fun (q1 : Int32) => if q1 = 0 then (some (3, 0, μ)) else (if a2 = 0 then ((f_X0_rowsOf 0 μ a1).bind fun (q2 : Int32) => some (0, q2, μ)) else ((f_X0_latestDayOf 0 μ a1).bind fun (q3 : Int32) => some (0, q3, μ)))
set_option maxHeartbeats 4000000 in
set_option maxRecDepth 100000 in
theorem c_X9_led (G : GG) (l : Launch) (hl0 : l.stackTraces = false) (μ : Mem) (a1 : Int32) (a2 : Int32) : CXT G l yX9_led (.code yX9_led cX9_led 3 (some .int)) 5 [.ref (gad G 0 0), .int a1, .int a2] μ (f_X9_led μ a1 a2) := by
  refine CXT.of (own := "SaturdayKeep") (L0 := [some (.ref (gad G 0 0)), some (.int a1), some (.int a2)]) hl0 rfl rfl rfl (Nat.le_of_ble_eq_true rfl) (fun C hl1 hl hout hcs hC => ?_)
  subst hl1
  delta f_X9_led
  refine aw_aload_n (pc := 0) (i := 0) hC dX9_led_0 rfl rfl ?_
  refine aw_iload_n (pc := 1) (i := 1) hC dX9_led_1 rfl rfl ?_
  refine aw_callVR (pc := 2) (As := [.int a1]) hC mb_X9_isGuest kw879 (by decide) (c_X9_isGuest G C.2.1   μ a1) (v0 (j := 0) (by decide)) rfl rfl rfl (Nat.le_of_ble_eq_true rfl) dX9_led_2 (fun q1 => ?_)
  refine aw_if_ne (pc := 5) (tgt := 18) hC dX9_led_5 (by decide) (fun _ => ?_) (fun _ => ?_)
  · skip
    exact aw_throw (k := 3) (i := 27) hC hl hout hcs rfl rfl kw883 kw23 thr3_138 (by decide) (by decide) (Nat.le_of_ble_eq_true rfl) dX9_led_8 dX9_led_11 dX9_led_12 dX9_led_14 dX9_led_17
  · skip
    refine aw_iload_n (pc := 18) (i := 2) hC dX9_led_18 rfl rfl ?_
    refine aw_if_eq (pc := 19) (tgt := 36) hC dX9_led_19 (by decide) (fun _ => ?_) (fun _ => ?_)
    · skip
      refine aw_aload_n (pc := 36) (i := 0) hC dX9_led_36 rfl rfl ?_
      refine aw_get (pc := 37) hC inX9 (v0 (j := 0) (by decide)) rfl rfl 4 (by decide) kw280 rfl rfl dX9_led_37 ?_
      refine aw_get (pc := 40) hC inX2 (vH (h := 0) (j := 0) (by decide) (by decide)) rfl rfl 1 (by decide) kw188 rfl rfl dX9_led_40 ?_
      refine aw_iload_n (pc := 43) (i := 1) hC dX9_led_43 rfl rfl ?_
      refine aw_callVR (pc := 44) (As := [.int a1]) hC mb_X0_rowsOf kw1295 (by decide) (c_X0_rowsOf G C.2.1 0 (by decide) μ a1) (vH (h := 0) (j := 5) (by decide) (by decide)) rfl rfl rfl (Nat.le_of_ble_eq_true rfl) dX9_led_44 (fun q2 => ?_)
      exact aw_iretX hC dX9_led_47
    · skip
      refine aw_aload_n (pc := 22) (i := 0) hC dX9_led_22 rfl rfl ?_
      refine aw_get (pc := 23) hC inX9 (v0 (j := 0) (by decide)) rfl rfl 4 (by decide) kw280 rfl rfl dX9_led_23 ?_
      refine aw_get (pc := 26) hC inX2 (vH (h := 0) (j := 0) (by decide) (by decide)) rfl rfl 1 (by decide) kw188 rfl rfl dX9_led_26 ?_
      refine aw_iload_n (pc := 29) (i := 1) hC dX9_led_29 rfl rfl ?_
      refine aw_callVR (pc := 30) (As := [.int a1]) hC mb_X0_latestDayOf kw1286 (by decide) (c_X0_latestDayOf G C.2.1 0 (by decide) μ a1) (vH (h := 0) (j := 5) (by decide) (by decide)) rfl rfl rfl (Nat.le_of_ble_eq_true rfl) dX9_led_30 (fun q3 => ?_)
      refine aw_goto (pc := 33) (tgt := 47) hC dX9_led_33 (by decide) ?_
      exact aw_iretX hC dX9_led_47
theorem dX9_log_0 : decode cX9_log 0 = .ok (.iload_n 2, 1) := by decide +kernel
theorem dX9_log_1 : decode cX9_log 1 = .ok (.ifCond .lt 8, 3) := by decide +kernel
theorem dX9_log_4 : decode cX9_log 4 = .ok (.iload_n 2, 1) := by decide +kernel
theorem dX9_log_5 : decode cX9_log 5 = .ok (.iconst 4, 1) := by decide +kernel
theorem dX9_log_6 : decode cX9_log 6 = .ok (.if_icmp .lt 14, 3) := by decide +kernel
theorem dX9_log_9 : decode cX9_log 9 = .ok (.new 177, 3) := by decide +kernel
theorem dX9_log_12 : decode cX9_log 12 = .ok (.dup, 1) := by decide +kernel
theorem dX9_log_13 : decode cX9_log 13 = .ok (.ldc_w 408, 3) := by decide +kernel
theorem dX9_log_16 : decode cX9_log 16 = .ok (.invokespecial 181, 3) := by decide +kernel
theorem dX9_log_19 : decode cX9_log 19 = .ok (.athrow, 1) := by decide +kernel
theorem dX9_log_20 : decode cX9_log 20 = .ok (.aload_n 0, 1) := by decide +kernel
theorem dX9_log_21 : decode cX9_log 21 = .ok (.getfield 42, 3) := by decide +kernel
theorem dX9_log_24 : decode cX9_log 24 = .ok (.getfield 396, 3) := by decide +kernel
theorem dX9_log_27 : decode cX9_log 27 = .ok (.iload_n 1, 1) := by decide +kernel
theorem dX9_log_28 : decode cX9_log 28 = .ok (.iload_n 2, 1) := by decide +kernel
theorem dX9_log_29 : decode cX9_log 29 = .ok (.invokevirtual 410, 3) := by decide +kernel
theorem dX9_log_32 : decode cX9_log 32 = .ok (.ireturn, 1) := by decide +kernel
def f_X9_log (μ : Mem) (a1 : Int32) (a2 : Int32) : Option (Nat × Int32 × Mem) := nm (some (4, 0, μ)) fun (J9 : Option (Nat × Int32 × Mem)) => if a2 < 0 then (J9) else (if a2 < 4 then ((f_X0_cell 0 μ a1 a2).bind fun (q1 : Int32) => some (0, q1, μ)) else (J9))
set_option maxHeartbeats 4000000 in
set_option maxRecDepth 100000 in
theorem c_X9_log (G : GG) (l : Launch) (hl0 : l.stackTraces = false) (μ : Mem) (a1 : Int32) (a2 : Int32) : CXT G l yX9_log (.code yX9_log cX9_log 3 (some .int)) 5 [.ref (gad G 0 0), .int a1, .int a2] μ (f_X9_log μ a1 a2) := by
  refine CXT.of (own := "SaturdayKeep") (L0 := [some (.ref (gad G 0 0)), some (.int a1), some (.int a2)]) hl0 rfl rfl rfl (Nat.le_of_ble_eq_true rfl) (fun C hl1 hl hout hcs hC => ?_)
  subst hl1
  delta f_X9_log
  refine aw_iload_n (pc := 0) (i := 2) hC dX9_log_0 rfl rfl ?_
  refine aw_nmJ (fun (J9 : Option (Nat × Int32 × Mem)) => AW G C (qX G C) 0 0 3 μ 9 [none, none, none] [] (J9)) ?_ (fun J9 hJ9 => ?_)
  · skip
    exact aw_throwNW (k := 4) (i := 43) hC hl hout hcs rfl rfl kw926 kw25 thr4_181 (by decide) (by decide) (Nat.le_of_ble_eq_true rfl) dX9_log_9 dX9_log_12 dX9_log_13 dX9_log_16 dX9_log_19
  · skip
    refine aw_if_lt (pc := 1) (tgt := 9) hC dX9_log_1 (by decide) (fun _ => ?_) (fun _ => ?_)
    · skip
      exact aw_drop [0, 1, 2] (hJ9)
    · skip
      refine aw_iload_n (pc := 4) (i := 2) hC dX9_log_4 rfl rfl ?_
      refine aw_iconst (pc := 5) (v := 4) hC dX9_log_5 ic4 ?_
      refine aw_icmp_lt (pc := 6) (tgt := 20) hC dX9_log_6 (by decide) (fun _ => ?_) (fun _ => ?_)
      · skip
        refine aw_aload_n (pc := 20) (i := 0) hC dX9_log_20 rfl rfl ?_
        refine aw_get (pc := 21) hC inX9 (v0 (j := 0) (by decide)) rfl rfl 4 (by decide) kw280 rfl rfl dX9_log_21 ?_
        refine aw_get (pc := 24) hC inX2 (vH (h := 0) (j := 0) (by decide) (by decide)) rfl rfl 1 (by decide) kw188 rfl rfl dX9_log_24 ?_
        refine aw_iload_n (pc := 27) (i := 1) hC dX9_log_27 rfl rfl ?_
        refine aw_iload_n (pc := 28) (i := 2) hC dX9_log_28 rfl rfl ?_
        refine aw_callVR (pc := 29) (As := [.int a1, .int a2]) hC mb_X0_cell kw1307 (by decide) (c_X0_cell G C.2.1 0 (by decide) μ a1 a2) (vH (h := 0) (j := 5) (by decide) (by decide)) rfl rfl rfl (Nat.le_of_ble_eq_true rfl) dX9_log_29 (fun q1 => ?_)
        exact aw_iretX hC dX9_log_32
      · skip
        exact aw_drop [0, 1, 2] (hJ9)
