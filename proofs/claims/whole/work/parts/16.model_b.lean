theorem dX10_seesFrom_0 : decode cX10_seesFrom 0 = .ok (.iload_n 1, 1) := by decide +kernel
theorem dX10_seesFrom_1 : decode cX10_seesFrom 1 = .ok (.iconst 1, 1) := by decide +kernel
theorem dX10_seesFrom_2 : decode cX10_seesFrom 2 = .ok (.iadd, 1) := by decide +kernel
theorem dX10_seesFrom_3 : decode cX10_seesFrom 3 = .ok (.bipush 8, 2) := by decide +kernel
theorem dX10_seesFrom_5 : decode cX10_seesFrom 5 = .ok (.irem, 1) := by decide +kernel
theorem dX10_seesFrom_6 : decode cX10_seesFrom 6 = .ok (.iload_n 3, 1) := by decide +kernel
theorem dX10_seesFrom_7 : decode cX10_seesFrom 7 = .ok (.if_icmp .eq 13, 3) := by decide +kernel
theorem dX10_seesFrom_10 : decode cX10_seesFrom 10 = .ok (.iload_n 3, 1) := by decide +kernel
theorem dX10_seesFrom_11 : decode cX10_seesFrom 11 = .ok (.iconst 1, 1) := by decide +kernel
theorem dX10_seesFrom_12 : decode cX10_seesFrom 12 = .ok (.iadd, 1) := by decide +kernel
theorem dX10_seesFrom_13 : decode cX10_seesFrom 13 = .ok (.bipush 8, 2) := by decide +kernel
theorem dX10_seesFrom_15 : decode cX10_seesFrom 15 = .ok (.irem, 1) := by decide +kernel
theorem dX10_seesFrom_16 : decode cX10_seesFrom 16 = .ok (.iload_n 1, 1) := by decide +kernel
theorem dX10_seesFrom_17 : decode cX10_seesFrom 17 = .ok (.if_icmp .ne 7, 3) := by decide +kernel
theorem dX10_seesFrom_20 : decode cX10_seesFrom 20 = .ok (.iconst 1, 1) := by decide +kernel
theorem dX10_seesFrom_21 : decode cX10_seesFrom 21 = .ok (.goto 4, 3) := by decide +kernel
theorem dX10_seesFrom_24 : decode cX10_seesFrom 24 = .ok (.iconst 0, 1) := by decide +kernel
theorem dX10_seesFrom_25 : decode cX10_seesFrom 25 = .ok (.istore 4, 2) := by decide +kernel
theorem dX10_seesFrom_27 : decode cX10_seesFrom 27 = .ok (.iload_n 1, 1) := by decide +kernel
theorem dX10_seesFrom_28 : decode cX10_seesFrom 28 = .ok (.iload_n 3, 1) := by decide +kernel
theorem dX10_seesFrom_29 : decode cX10_seesFrom 29 = .ok (.if_icmp .eq 21, 3) := by decide +kernel
theorem dX10_seesFrom_32 : decode cX10_seesFrom 32 = .ok (.aload_n 0, 1) := by decide +kernel
theorem dX10_seesFrom_33 : decode cX10_seesFrom 33 = .ok (.iload_n 1, 1) := by decide +kernel
theorem dX10_seesFrom_34 : decode cX10_seesFrom 34 = .ok (.iload_n 3, 1) := by decide +kernel
theorem dX10_seesFrom_35 : decode cX10_seesFrom 35 = .ok (.invokevirtual 229, 3) := by decide +kernel
theorem dX10_seesFrom_38 : decode cX10_seesFrom 38 = .ok (.ifCond .ne 12, 3) := by decide +kernel
theorem dX10_seesFrom_41 : decode cX10_seesFrom 41 = .ok (.iload_n 2, 1) := by decide +kernel
theorem dX10_seesFrom_42 : decode cX10_seesFrom 42 = .ok (.ifCond .eq 12, 3) := by decide +kernel
theorem dX10_seesFrom_45 : decode cX10_seesFrom 45 = .ok (.iload 4, 2) := by decide +kernel
theorem dX10_seesFrom_47 : decode cX10_seesFrom 47 = .ok (.ifCond .eq 7, 3) := by decide +kernel
theorem dX10_seesFrom_50 : decode cX10_seesFrom 50 = .ok (.iconst 1, 1) := by decide +kernel
theorem dX10_seesFrom_51 : decode cX10_seesFrom 51 = .ok (.goto 4, 3) := by decide +kernel
theorem dX10_seesFrom_54 : decode cX10_seesFrom 54 = .ok (.iconst 0, 1) := by decide +kernel
theorem dX10_seesFrom_55 : decode cX10_seesFrom 55 = .ok (.ireturn, 1) := by decide +kernel
def f_X10_seesFrom (μ : Mem) (a1 : Int32) (a2 : Int32) (a3 : Int32) : Option (Int32) := nm (fun (x1 : Int32) => if a1 = a3 then (some 1) else ((f_X10_isHole μ a1 a3).bind fun (q2 : Int32) => if q2 = 0 then (if a2 = 0 then (some 0) else (if x1 = 0 then (some 0) else (some 1))) else (some 1))) fun (J25 : Int32 → Option (Int32)) => nm (J25 1) fun (J20 : Option (Int32)) => if (jrem (a1 + 1) 8) = a3 then (J20) else (if (jrem (a3 + 1) 8) = a1 then (J20) else (J25 0))
set_option maxHeartbeats 4000000 in
set_option maxRecDepth 100000 in
theorem c_X10_seesFrom (G : GG) (l : Launch) (μ : Mem) (a1 : Int32) (a2 : Int32) (a3 : Int32) : CR G l yX10_seesFrom (.code yX10_seesFrom cX10_seesFrom 5 (some .boolean)) 3 [.ref (gad G 0 12), .int a1, .int a2, .int a3] μ (f_X10_seesFrom μ a1 a2 a3) := by
  refine CR.of (own := "SaturdayKeepModel") (L0 := [some (.ref (gad G 0 12)), some (.int a1), some (.int a2), some (.int a3), none]) rfl rfl rfl (Nat.le_of_ble_eq_true rfl) (fun C hl hC => ?_)
  subst hl
  delta f_X10_seesFrom
  refine aw_iload_n (pc := 0) (i := 1) hC dX10_seesFrom_0 rfl rfl ?_
  refine aw_iconst (pc := 1) (v := 1) hC dX10_seesFrom_1 ic1 ?_
  refine aw_iadd (pc := 2) hC dX10_seesFrom_2 ?_
  refine aw_bipush (pc := 3) (v := 8) hC dX10_seesFrom_3 bc8 ?_
  refine aw_irem (pc := 5) hC dX10_seesFrom_5 (by decide) ?_
  refine aw_iload_n (pc := 6) (i := 3) hC dX10_seesFrom_6 rfl rfl ?_
  refine aw_nmJ (fun (J25 : Int32 → Option (Int32)) => ∀ (x1 : Int32), AW G C (qR G C 0 0 μ) 0 0 5 μ 25 [some (.ref (gad G 0 12)), some (.int a1), some (.int a2), some (.int a3), none] [.int x1] (J25 x1)) (fun x1 => ?_) (fun J25 hJ25 => ?_)
  · skip
    refine aw_istore (pc := 25) hC dX10_seesFrom_25 rfl (by decide) ?_
    refine aw_iload_n (pc := 27) (i := 1) hC dX10_seesFrom_27 rfl rfl ?_
    refine aw_iload_n (pc := 28) (i := 3) hC dX10_seesFrom_28 rfl rfl ?_
    refine aw_icmp_eq (pc := 29) (tgt := 50) hC dX10_seesFrom_29 (by decide) (fun _ => ?_) (fun _ => ?_)
    · skip
      refine aw_iconst (pc := 50) (v := 1) hC dX10_seesFrom_50 ic1 ?_
      refine aw_goto (pc := 51) (tgt := 55) hC dX10_seesFrom_51 (by decide) ?_
      exact aw_zret1R hC dX10_seesFrom_55
    · skip
      refine aw_aload_n (pc := 32) (i := 0) hC dX10_seesFrom_32 rfl rfl ?_
      refine aw_iload_n (pc := 33) (i := 1) hC dX10_seesFrom_33 rfl rfl ?_
      refine aw_iload_n (pc := 34) (i := 3) hC dX10_seesFrom_34 rfl rfl ?_
      refine aw_callVR (pc := 35) (As := [.int a1, .int a3]) hC mb_X10_isHole kw1574 (by decide) (c_X10_isHole G C.2.1   μ a1 a3) (v0 (j := 12) (by decide)) rfl rfl rfl (Nat.le_of_ble_eq_true rfl) dX10_seesFrom_35 (fun q2 => ?_)
      refine aw_if_ne (pc := 38) (tgt := 50) hC dX10_seesFrom_38 (by decide) (fun _ => ?_) (fun _ => ?_)
      · skip
        refine aw_iload_n (pc := 41) (i := 2) hC dX10_seesFrom_41 rfl rfl ?_
        refine aw_if_eq (pc := 42) (tgt := 54) hC dX10_seesFrom_42 (by decide) (fun _ => ?_) (fun _ => ?_)
        · skip
          refine aw_iconst (pc := 54) (v := 0) hC dX10_seesFrom_54 ic0 ?_
          exact aw_zret0R hC dX10_seesFrom_55
        · skip
          refine aw_iload (pc := 45) hC dX10_seesFrom_45 rfl ?_
          refine aw_if_eq (pc := 47) (tgt := 54) hC dX10_seesFrom_47 (by decide) (fun _ => ?_) (fun _ => ?_)
          · skip
            refine aw_iconst (pc := 54) (v := 0) hC dX10_seesFrom_54 ic0 ?_
            exact aw_zret0R hC dX10_seesFrom_55
          · skip
            refine aw_iconst (pc := 50) (v := 1) hC dX10_seesFrom_50 ic1 ?_
            refine aw_goto (pc := 51) (tgt := 55) hC dX10_seesFrom_51 (by decide) ?_
            exact aw_zret1R hC dX10_seesFrom_55
      · skip
        refine aw_iconst (pc := 50) (v := 1) hC dX10_seesFrom_50 ic1 ?_
        refine aw_goto (pc := 51) (tgt := 55) hC dX10_seesFrom_51 (by decide) ?_
        exact aw_zret1R hC dX10_seesFrom_55
  · skip
    refine aw_nmJ (fun (J20 : Option (Int32)) => AW G C (qR G C 0 0 μ) 0 0 5 μ 20 [some (.ref (gad G 0 12)), some (.int a1), some (.int a2), some (.int a3), none] [] (J20)) ?_ (fun J20 hJ20 => ?_)
    · skip
      refine aw_iconst (pc := 20) (v := 1) hC dX10_seesFrom_20 ic1 ?_
      refine aw_goto (pc := 21) (tgt := 25) hC dX10_seesFrom_21 (by decide) ?_
      exact hJ25 1
    · skip
      refine aw_icmp_eq (pc := 7) (tgt := 20) hC dX10_seesFrom_7 (by decide) (fun _ => ?_) (fun _ => ?_)
      · skip
        exact hJ20
      · skip
        refine aw_iload_n (pc := 10) (i := 3) hC dX10_seesFrom_10 rfl rfl ?_
        refine aw_iconst (pc := 11) (v := 1) hC dX10_seesFrom_11 ic1 ?_
        refine aw_iadd (pc := 12) hC dX10_seesFrom_12 ?_
        refine aw_bipush (pc := 13) (v := 8) hC dX10_seesFrom_13 bc8 ?_
        refine aw_irem (pc := 15) hC dX10_seesFrom_15 (by decide) ?_
        refine aw_iload_n (pc := 16) (i := 1) hC dX10_seesFrom_16 rfl rfl ?_
        refine aw_icmp_ne (pc := 17) (tgt := 24) hC dX10_seesFrom_17 (by decide) (fun _ => ?_) (fun _ => ?_)
        · skip
          exact hJ20
        · skip
          refine aw_iconst (pc := 24) (v := 0) hC dX10_seesFrom_24 ic0 ?_
          exact hJ25 0
theorem dX10_sees_0 : decode cX10_sees 0 = .ok (.aload_n 0, 1) := by decide +kernel
theorem dX10_sees_1 : decode cX10_sees 1 = .ok (.aload_n 0, 1) := by decide +kernel
theorem dX10_sees_2 : decode cX10_sees 2 = .ok (.iload_n 1, 1) := by decide +kernel
theorem dX10_sees_3 : decode cX10_sees 3 = .ok (.iconst 0, 1) := by decide +kernel
theorem dX10_sees_4 : decode cX10_sees 4 = .ok (.invokevirtual 49, 3) := by decide +kernel
theorem dX10_sees_7 : decode cX10_sees 7 = .ok (.aload_n 0, 1) := by decide +kernel
theorem dX10_sees_8 : decode cX10_sees 8 = .ok (.iload_n 1, 1) := by decide +kernel
theorem dX10_sees_9 : decode cX10_sees 9 = .ok (.iconst 3, 1) := by decide +kernel
theorem dX10_sees_10 : decode cX10_sees 10 = .ok (.invokevirtual 49, 3) := by decide +kernel
theorem dX10_sees_13 : decode cX10_sees 13 = .ok (.iconst 1, 1) := by decide +kernel
theorem dX10_sees_14 : decode cX10_sees 14 = .ok (.if_icmp .ne 7, 3) := by decide +kernel
theorem dX10_sees_17 : decode cX10_sees 17 = .ok (.iconst 1, 1) := by decide +kernel
theorem dX10_sees_18 : decode cX10_sees 18 = .ok (.goto 4, 3) := by decide +kernel
theorem dX10_sees_21 : decode cX10_sees 21 = .ok (.iconst 0, 1) := by decide +kernel
theorem dX10_sees_22 : decode cX10_sees 22 = .ok (.iload_n 2, 1) := by decide +kernel
theorem dX10_sees_23 : decode cX10_sees 23 = .ok (.invokevirtual 232, 3) := by decide +kernel
theorem dX10_sees_26 : decode cX10_sees 26 = .ok (.ireturn, 1) := by decide +kernel
def f_X10_sees (μ : Mem) (a1 : Int32) (a2 : Int32) : Option (Int32) := (f_X10_of μ a1 0).bind fun (q1 : Int32) => (f_X10_of μ a1 3).bind fun (q2 : Int32) => nm (fun (x3 : Int32) => (f_X10_seesFrom μ q1 x3 a2).bind fun (q4 : Int32) => bk q4 (some q4)) fun (J22 : Int32 → Option (Int32)) => if q2 = 1 then (J22 1) else (J22 0)
set_option maxHeartbeats 4000000 in
set_option maxRecDepth 100000 in
theorem c_X10_sees (G : GG) (l : Launch) (μ : Mem) (a1 : Int32) (a2 : Int32) : CR G l yX10_sees (.code yX10_sees cX10_sees 3 (some .boolean)) 4 [.ref (gad G 0 12), .int a1, .int a2] μ (f_X10_sees μ a1 a2) := by
  refine CR.of (own := "SaturdayKeepModel") (L0 := [some (.ref (gad G 0 12)), some (.int a1), some (.int a2)]) rfl rfl rfl (Nat.le_of_ble_eq_true rfl) (fun C hl hC => ?_)
  subst hl
  delta f_X10_sees
  refine aw_aload_n (pc := 0) (i := 0) hC dX10_sees_0 rfl rfl ?_
  refine aw_aload_n (pc := 1) (i := 0) hC dX10_sees_1 rfl rfl ?_
  refine aw_iload_n (pc := 2) (i := 1) hC dX10_sees_2 rfl rfl ?_
  refine aw_iconst (pc := 3) (v := 0) hC dX10_sees_3 ic0 ?_
  refine aw_callVR (pc := 4) (As := [.int a1, .int 0]) hC mb_X10_of kw1539 (by decide) (c_X10_of G C.2.1   μ a1 0) (v0 (j := 12) (by decide)) rfl rfl rfl (Nat.le_of_ble_eq_true rfl) dX10_sees_4 (fun q1 => ?_)
  refine aw_aload_n (pc := 7) (i := 0) hC dX10_sees_7 rfl rfl ?_
  refine aw_iload_n (pc := 8) (i := 1) hC dX10_sees_8 rfl rfl ?_
  refine aw_iconst (pc := 9) (v := 3) hC dX10_sees_9 ic3 ?_
  refine aw_callVR (pc := 10) (As := [.int a1, .int 3]) hC mb_X10_of kw1539 (by decide) (c_X10_of G C.2.1   μ a1 3) (v0 (j := 12) (by decide)) rfl rfl rfl (Nat.le_of_ble_eq_true rfl) dX10_sees_10 (fun q2 => ?_)
  refine aw_iconst (pc := 13) (v := 1) hC dX10_sees_13 ic1 ?_
  refine aw_nmJ (fun (J22 : Int32 → Option (Int32)) => ∀ (x3 : Int32), AW G C (qR G C 0 0 μ) 0 0 3 μ 22 [none, none, some (.int a2)] [.int x3, .int q1, .ref (gad G 0 12)] (J22 x3)) (fun x3 => ?_) (fun J22 hJ22 => ?_)
  · skip
    refine aw_iload_n (pc := 22) (i := 2) hC dX10_sees_22 rfl rfl ?_
    refine aw_callVR (pc := 23) (As := [.int q1, .int x3, .int a2]) hC mb_X10_seesFrom kw1570 (by decide) (c_X10_seesFrom G C.2.1   μ q1 x3 a2) (v0 (j := 12) (by decide)) rfl rfl rfl (Nat.le_of_ble_eq_true rfl) dX10_sees_23 (fun q4 => ?_)
    exact aw_zretR hC dX10_sees_26
  · skip
    refine aw_icmp_ne (pc := 14) (tgt := 21) hC dX10_sees_14 (by decide) (fun _ => ?_) (fun _ => ?_)
    · skip
      refine aw_iconst (pc := 17) (v := 1) hC dX10_sees_17 ic1 ?_
      refine aw_goto (pc := 18) (tgt := 22) hC dX10_sees_18 (by decide) ?_
      exact aw_drop [0, 1] (hJ22 1)
    · skip
      refine aw_iconst (pc := 21) (v := 0) hC dX10_sees_21 ic0 ?_
      exact aw_drop [0, 1] (hJ22 0)
theorem dX10_guest_0 : decode cX10_guest 0 = .ok (.aload_n 0, 1) := by decide +kernel
theorem dX10_guest_1 : decode cX10_guest 1 = .ok (.aload_n 0, 1) := by decide +kernel
theorem dX10_guest_2 : decode cX10_guest 2 = .ok (.iload_n 1, 1) := by decide +kernel
theorem dX10_guest_3 : decode cX10_guest 3 = .ok (.invokevirtual 267, 3) := by decide +kernel
theorem dX10_guest_6 : decode cX10_guest 6 = .ok (.ifCond .ne 7, 3) := by decide +kernel
theorem dX10_guest_9 : decode cX10_guest 9 = .ok (.iconst 1, 1) := by decide +kernel
theorem dX10_guest_10 : decode cX10_guest 10 = .ok (.goto 18, 3) := by decide +kernel
theorem dX10_guest_13 : decode cX10_guest 13 = .ok (.iload_n 2, 1) := by decide +kernel
theorem dX10_guest_14 : decode cX10_guest 14 = .ok (.iconst 0, 1) := by decide +kernel
theorem dX10_guest_15 : decode cX10_guest 15 = .ok (.bipush 8, 2) := by decide +kernel
theorem dX10_guest_17 : decode cX10_guest 17 = .ok (.invokestatic 45, 3) := by decide +kernel
theorem dX10_guest_20 : decode cX10_guest 20 = .ok (.ifCond .ne 7, 3) := by decide +kernel
theorem dX10_guest_23 : decode cX10_guest 23 = .ok (.iconst 2, 1) := by decide +kernel
theorem dX10_guest_24 : decode cX10_guest 24 = .ok (.goto 4, 3) := by decide +kernel
theorem dX10_guest_27 : decode cX10_guest 27 = .ok (.iconst 0, 1) := by decide +kernel
theorem dX10_guest_28 : decode cX10_guest 28 = .ok (.putfield 42, 3) := by decide +kernel
theorem dX10_guest_31 : decode cX10_guest 31 = .ok (.aload_n 0, 1) := by decide +kernel
theorem dX10_guest_32 : decode cX10_guest 32 = .ok (.getfield 42, 3) := by decide +kernel
theorem dX10_guest_35 : decode cX10_guest 35 = .ok (.ifCond .le 5, 3) := by decide +kernel
theorem dX10_guest_38 : decode cX10_guest 38 = .ok (.iconst 0, 1) := by decide +kernel
theorem dX10_guest_39 : decode cX10_guest 39 = .ok (.ireturn, 1) := by decide +kernel
theorem dX10_guest_40 : decode cX10_guest 40 = .ok (.iload_n 2, 1) := by decide +kernel
theorem dX10_guest_41 : decode cX10_guest 41 = .ok (.iconst 5, 1) := by decide +kernel
theorem dX10_guest_42 : decode cX10_guest 42 = .ok (.if_icmp .ge 10, 3) := by decide +kernel
theorem dX10_guest_45 : decode cX10_guest 45 = .ok (.aload_n 0, 1) := by decide +kernel
theorem dX10_guest_46 : decode cX10_guest 46 = .ok (.iload_n 1, 1) := by decide +kernel
theorem dX10_guest_47 : decode cX10_guest 47 = .ok (.iload_n 2, 1) := by decide +kernel
theorem dX10_guest_48 : decode cX10_guest 48 = .ok (.invokevirtual 49, 3) := by decide +kernel
theorem dX10_guest_51 : decode cX10_guest 51 = .ok (.ireturn, 1) := by decide +kernel
theorem dX10_guest_52 : decode cX10_guest 52 = .ok (.iload_n 2, 1) := by decide +kernel
theorem dX10_guest_53 : decode cX10_guest 53 = .ok (.iconst 5, 1) := by decide +kernel
theorem dX10_guest_54 : decode cX10_guest 54 = .ok (.if_icmp .ne 9, 3) := by decide +kernel
theorem dX10_guest_57 : decode cX10_guest 57 = .ok (.aload_n 0, 1) := by decide +kernel
theorem dX10_guest_58 : decode cX10_guest 58 = .ok (.iload_n 1, 1) := by decide +kernel
theorem dX10_guest_59 : decode cX10_guest 59 = .ok (.invokevirtual 258, 3) := by decide +kernel
theorem dX10_guest_62 : decode cX10_guest 62 = .ok (.ireturn, 1) := by decide +kernel
theorem dX10_guest_63 : decode cX10_guest 63 = .ok (.iload_n 2, 1) := by decide +kernel
theorem dX10_guest_64 : decode cX10_guest 64 = .ok (.bipush 6, 2) := by decide +kernel
theorem dX10_guest_66 : decode cX10_guest 66 = .ok (.if_icmp .ne 9, 3) := by decide +kernel
theorem dX10_guest_69 : decode cX10_guest 69 = .ok (.aload_n 0, 1) := by decide +kernel
theorem dX10_guest_70 : decode cX10_guest 70 = .ok (.iload_n 1, 1) := by decide +kernel
theorem dX10_guest_71 : decode cX10_guest 71 = .ok (.invokevirtual 246, 3) := by decide +kernel
theorem dX10_guest_74 : decode cX10_guest 74 = .ok (.ireturn, 1) := by decide +kernel
theorem dX10_guest_75 : decode cX10_guest 75 = .ok (.iload_n 2, 1) := by decide +kernel
theorem dX10_guest_76 : decode cX10_guest 76 = .ok (.bipush 8, 2) := by decide +kernel
theorem dX10_guest_78 : decode cX10_guest 78 = .ok (.if_icmp .ne 37, 3) := by decide +kernel
theorem dX10_guest_81 : decode cX10_guest 81 = .ok (.aload_n 0, 1) := by decide +kernel
theorem dX10_guest_82 : decode cX10_guest 82 = .ok (.iload_n 1, 1) := by decide +kernel
theorem dX10_guest_83 : decode cX10_guest 83 = .ok (.invokevirtual 236, 3) := by decide +kernel
theorem dX10_guest_86 : decode cX10_guest 86 = .ok (.ifCond .eq 10, 3) := by decide +kernel
theorem dX10_guest_89 : decode cX10_guest 89 = .ok (.aload_n 0, 1) := by decide +kernel
theorem dX10_guest_90 : decode cX10_guest 90 = .ok (.invokevirtual 270, 3) := by decide +kernel
theorem dX10_guest_93 : decode cX10_guest 93 = .ok (.ifCond .ne 7, 3) := by decide +kernel
theorem dX10_guest_96 : decode cX10_guest 96 = .ok (.iconst 0, 1) := by decide +kernel
theorem dX10_guest_97 : decode cX10_guest 97 = .ok (.goto 17, 3) := by decide +kernel
theorem dX10_guest_100 : decode cX10_guest 100 = .ok (.bipush 100, 2) := by decide +kernel
theorem dX10_guest_102 : decode cX10_guest 102 = .ok (.aload_n 0, 1) := by decide +kernel
theorem dX10_guest_103 : decode cX10_guest 103 = .ok (.iload_n 1, 1) := by decide +kernel
theorem dX10_guest_104 : decode cX10_guest 104 = .ok (.iconst 2, 1) := by decide +kernel
theorem dX10_guest_105 : decode cX10_guest 105 = .ok (.invokevirtual 49, 3) := by decide +kernel
theorem dX10_guest_108 : decode cX10_guest 108 = .ok (.imul, 1) := by decide +kernel
theorem dX10_guest_109 : decode cX10_guest 109 = .ok (.aload_n 0, 1) := by decide +kernel
theorem dX10_guest_110 : decode cX10_guest 110 = .ok (.invokevirtual 270, 3) := by decide +kernel
theorem dX10_guest_113 : decode cX10_guest 113 = .ok (.idiv, 1) := by decide +kernel
theorem dX10_guest_114 : decode cX10_guest 114 = .ok (.ireturn, 1) := by decide +kernel
theorem dX10_guest_115 : decode cX10_guest 115 = .ok (.iconst 0, 1) := by decide +kernel
theorem dX10_guest_116 : decode cX10_guest 116 = .ok (.istore_n 3, 1) := by decide +kernel
theorem dX10_guest_117 : decode cX10_guest 117 = .ok (.iconst 0, 1) := by decide +kernel
theorem dX10_guest_118 : decode cX10_guest 118 = .ok (.istore 4, 2) := by decide +kernel
theorem dX10_guest_120 : decode cX10_guest 120 = .ok (.iload 4, 2) := by decide +kernel
theorem dX10_guest_122 : decode cX10_guest 122 = .ok (.bipush 8, 2) := by decide +kernel
theorem dX10_guest_124 : decode cX10_guest 124 = .ok (.if_icmp .ge 30, 3) := by decide +kernel
theorem dX10_guest_127 : decode cX10_guest 127 = .ok (.iload_n 3, 1) := by decide +kernel
theorem dX10_guest_128 : decode cX10_guest 128 = .ok (.aload_n 0, 1) := by decide +kernel
theorem dX10_guest_129 : decode cX10_guest 129 = .ok (.iload_n 1, 1) := by decide +kernel
theorem dX10_guest_130 : decode cX10_guest 130 = .ok (.iload 4, 2) := by decide +kernel
theorem dX10_guest_132 : decode cX10_guest 132 = .ok (.invokevirtual 239, 3) := by decide +kernel
theorem dX10_guest_135 : decode cX10_guest 135 = .ok (.ifCond .eq 10, 3) := by decide +kernel
theorem dX10_guest_138 : decode cX10_guest 138 = .ok (.iconst 1, 1) := by decide +kernel
theorem dX10_guest_139 : decode cX10_guest 139 = .ok (.iload 4, 2) := by decide +kernel
theorem dX10_guest_141 : decode cX10_guest 141 = .ok (.ishl, 1) := by decide +kernel
theorem dX10_guest_142 : decode cX10_guest 142 = .ok (.goto 4, 3) := by decide +kernel
theorem dX10_guest_145 : decode cX10_guest 145 = .ok (.iconst 0, 1) := by decide +kernel
theorem dX10_guest_146 : decode cX10_guest 146 = .ok (.ior, 1) := by decide +kernel
theorem dX10_guest_147 : decode cX10_guest 147 = .ok (.istore_n 3, 1) := by decide +kernel
theorem dX10_guest_148 : decode cX10_guest 148 = .ok (.iinc 4 1, 3) := by decide +kernel
theorem dX10_guest_151 : decode cX10_guest 151 = .ok (.goto (-31), 3) := by decide +kernel
theorem dX10_guest_154 : decode cX10_guest 154 = .ok (.iload_n 3, 1) := by decide +kernel
theorem dX10_guest_155 : decode cX10_guest 155 = .ok (.ireturn, 1) := by decide +kernel
def lp_X10_guest_120 (a1 : Int32) (μ3 : Mem) : Nat → Int32 → Int32 → Option (Int32 × Mem)
  | 0, _, _ => none
  | n + 1, x10, x11 => if 8 ≤ x11 then (some (x10, μ3)) else ((f_X10_sees μ3 a1 x11).bind fun (q12 : Int32) => if q12 = 0 then (lp_X10_guest_120 a1 μ3 n (x10 ||| 0) (x11 + 1)) else (lp_X10_guest_120 a1 μ3 n (x10 ||| (jshl 1 x11)) (x11 + 1)))
def f_X10_guest (μ : Mem) (a1 : Int32) (a2 : Int32) : Option (Int32 × Mem) := (f_X10_isGuest μ a1).bind fun (q1 : Int32) => nm (fun (x2 : Int32) => nm (upm μ 0 12 0 x2) fun (μ3 : Mem) => if (μ3 0 12 0) ≤ 0 then (if 5 ≤ a2 then (if a2 = 5 then ((f_X10_risk μ3 a1).bind fun (q4 : Int32) => some (q4, μ3)) else (if a2 = 6 then ((f_X10_turnsBy μ3 a1).bind fun (q5 : Int32 × Mem) => some (q5.1, q5.2)) else (if a2 = 8 then ((f_X10_isHere μ3 a1).bind fun (q6 : Int32) => if q6 = 0 then (some (0, μ3)) else ((f_X10_doubts μ3).bind fun (q7 : Int32) => if q7 = 0 then (some (0, μ3)) else ((f_X10_of μ3 a1 2).bind fun (q8 : Int32) => (f_X10_doubts μ3).bind fun (q9 : Int32) => nz q9 (some (((100 * q8) / q9), μ3))))) else (lp_X10_guest_120 a1 μ3 4096 0 0)))) else ((f_X10_of μ3 a1 a2).bind fun (q13 : Int32) => some (q13, μ3))) else (some (0, μ3))) fun (J28 : Int32 → Option (Int32 × Mem)) => if q1 = 0 then (J28 1) else ((f_X10_isIn a2 0 8).bind fun (q14 : Int32) => if q14 = 0 then (J28 2) else (J28 0))
set_option maxHeartbeats 4000000 in
set_option maxRecDepth 100000 in
theorem c_X10_guest (G : GG) (l : Launch) (μ : Mem) (a1 : Int32) (a2 : Int32) : CI G l yX10_guest (.code yX10_guest cX10_guest 5 (some .int)) 58 [.ref (gad G 0 12), .int a1, .int a2] μ (f_X10_guest μ a1 a2) := by
  refine CI.of (own := "SaturdayKeepModel") (L0 := [some (.ref (gad G 0 12)), some (.int a1), some (.int a2), none, none]) rfl rfl rfl (Nat.le_of_ble_eq_true rfl) (fun C hl hC => ?_)
  subst hl
  delta f_X10_guest
  refine aw_aload_n (pc := 0) (i := 0) hC dX10_guest_0 rfl rfl ?_
  refine aw_aload_n (pc := 1) (i := 0) hC dX10_guest_1 rfl rfl ?_
  refine aw_iload_n (pc := 2) (i := 1) hC dX10_guest_2 rfl rfl ?_
  refine aw_callVR (pc := 3) (As := [.int a1]) hC mb_X10_isGuest kw1535 (by decide) (c_X10_isGuest G C.2.1   μ a1) (v0 (j := 12) (by decide)) rfl rfl rfl (Nat.le_of_ble_eq_true rfl) dX10_guest_3 (fun q1 => ?_)
  refine aw_nmJ (fun (J28 : Int32 → Option (Int32 × Mem)) => ∀ (x2 : Int32), AW G C (qI G C 0 0) 0 0 5 μ 28 [some (.ref (gad G 0 12)), some (.int a1), some (.int a2), none, none] [.int x2, .ref (gad G 0 12)] (J28 x2)) (fun x2 => ?_) (fun J28 hJ28 => ?_)
  · skip
    refine aw_putIN (pc := 28) hC inX10 (v0 (j := 12) (by decide)) rfl rfl 0 (by decide) kw1314 rfl tyX10 tyX10_ok nmX10 rfl rfl (Nat.le_of_ble_eq_true rfl) rfl dX10_guest_28 (fun μ3 => ?_)
    refine aw_aload_n (pc := 31) (i := 0) hC dX10_guest_31 rfl rfl ?_
    refine aw_get (pc := 32) hC inX10 (v0 (j := 12) (by decide)) rfl rfl 0 (by decide) kw1314 rfl rfl dX10_guest_32 ?_
    refine aw_if_le (pc := 35) (tgt := 40) hC dX10_guest_35 (by decide) (fun _ => ?_) (fun _ => ?_)
    · skip
      refine aw_iload_n (pc := 40) (i := 2) hC dX10_guest_40 rfl rfl ?_
      refine aw_iconst (pc := 41) (v := 5) hC dX10_guest_41 ic5 ?_
      refine aw_icmp_ge (pc := 42) (tgt := 52) hC dX10_guest_42 (by decide) (fun _ => ?_) (fun _ => ?_)
      · skip
        refine aw_iload_n (pc := 52) (i := 2) hC dX10_guest_52 rfl rfl ?_
        refine aw_iconst (pc := 53) (v := 5) hC dX10_guest_53 ic5 ?_
        refine aw_icmp_ne (pc := 54) (tgt := 63) hC dX10_guest_54 (by decide) (fun _ => ?_) (fun _ => ?_)
        · skip
          refine aw_aload_n (pc := 57) (i := 0) hC dX10_guest_57 rfl rfl ?_
          refine aw_iload_n (pc := 58) (i := 1) hC dX10_guest_58 rfl rfl ?_
          refine aw_callVR (pc := 59) (As := [.int a1]) hC mb_X10_risk kw1543 (by decide) (c_X10_risk G C.2.1   μ3 a1) (v0 (j := 12) (by decide)) rfl rfl rfl (Nat.le_of_ble_eq_true rfl) dX10_guest_59 (fun q4 => ?_)
          exact aw_iret hC dX10_guest_62
        · skip
          refine aw_iload_n (pc := 63) (i := 2) hC dX10_guest_63 rfl rfl ?_
          refine aw_bipush (pc := 64) (v := 6) hC dX10_guest_64 bc6 ?_
          refine aw_icmp_ne (pc := 66) (tgt := 75) hC dX10_guest_66 (by decide) (fun _ => ?_) (fun _ => ?_)
          · skip
            refine aw_aload_n (pc := 69) (i := 0) hC dX10_guest_69 rfl rfl ?_
            refine aw_iload_n (pc := 70) (i := 1) hC dX10_guest_70 rfl rfl ?_
            refine aw_callVI (pc := 71) (As := [.int a1]) hC mb_X10_turnsBy kw1547 (by decide) (c_X10_turnsBy G C.2.1   μ3 a1) (v0 (j := 12) (by decide)) rfl rfl rfl (Nat.le_of_ble_eq_true rfl) dX10_guest_71 (fun q5 => ?_)
            exact aw_iret hC dX10_guest_74
          · skip
            refine aw_iload_n (pc := 75) (i := 2) hC dX10_guest_75 rfl rfl ?_
            refine aw_bipush (pc := 76) (v := 8) hC dX10_guest_76 bc8 ?_
            refine aw_icmp_ne (pc := 78) (tgt := 115) hC dX10_guest_78 (by decide) (fun _ => ?_) (fun _ => ?_)
            · skip
              refine aw_aload_n (pc := 81) (i := 0) hC dX10_guest_81 rfl rfl ?_
              refine aw_iload_n (pc := 82) (i := 1) hC dX10_guest_82 rfl rfl ?_
              refine aw_callVR (pc := 83) (As := [.int a1]) hC mb_X10_isHere kw1558 (by decide) (c_X10_isHere G C.2.1   μ3 a1) (v0 (j := 12) (by decide)) rfl rfl rfl (Nat.le_of_ble_eq_true rfl) dX10_guest_83 (fun q6 => ?_)
              refine aw_if_eq (pc := 86) (tgt := 96) hC dX10_guest_86 (by decide) (fun _ => ?_) (fun _ => ?_)
              · skip
                refine aw_iconst (pc := 96) (v := 0) hC dX10_guest_96 ic0 ?_
                refine aw_goto (pc := 97) (tgt := 114) hC dX10_guest_97 (by decide) ?_
                exact aw_iret hC dX10_guest_114
              · skip
                refine aw_aload_n (pc := 89) (i := 0) hC dX10_guest_89 rfl rfl ?_
                refine aw_callVR (pc := 90) (As := []) hC mb_X10_doubts kw1562 (by decide) (c_X10_doubts G C.2.1   μ3 ) (v0 (j := 12) (by decide)) rfl rfl rfl (Nat.le_of_ble_eq_true rfl) dX10_guest_90 (fun q7 => ?_)
                refine aw_if_ne (pc := 93) (tgt := 100) hC dX10_guest_93 (by decide) (fun _ => ?_) (fun _ => ?_)
                · skip
                  refine aw_iconst (pc := 96) (v := 0) hC dX10_guest_96 ic0 ?_
                  refine aw_goto (pc := 97) (tgt := 114) hC dX10_guest_97 (by decide) ?_
                  exact aw_iret hC dX10_guest_114
                · skip
                  refine aw_bipush (pc := 100) (v := 100) hC dX10_guest_100 bc100 ?_
                  refine aw_aload_n (pc := 102) (i := 0) hC dX10_guest_102 rfl rfl ?_
                  refine aw_iload_n (pc := 103) (i := 1) hC dX10_guest_103 rfl rfl ?_
                  refine aw_iconst (pc := 104) (v := 2) hC dX10_guest_104 ic2 ?_
                  refine aw_callVR (pc := 105) (As := [.int a1, .int 2]) hC mb_X10_of kw1539 (by decide) (c_X10_of G C.2.1   μ3 a1 2) (v0 (j := 12) (by decide)) rfl rfl rfl (Nat.le_of_ble_eq_true rfl) dX10_guest_105 (fun q8 => ?_)
                  refine aw_imul (pc := 108) hC dX10_guest_108 ?_
                  refine aw_aload_n (pc := 109) (i := 0) hC dX10_guest_109 rfl rfl ?_
                  refine aw_callVR (pc := 110) (As := []) hC mb_X10_doubts kw1562 (by decide) (c_X10_doubts G C.2.1   μ3 ) (v0 (j := 12) (by decide)) rfl rfl rfl (Nat.le_of_ble_eq_true rfl) dX10_guest_110 (fun q9 => ?_)
                  refine aw_idivZ (pc := 113) hC dX10_guest_113 ?_
                  exact aw_iret hC dX10_guest_114
            · skip
              refine aw_iconst (pc := 115) (v := 0) hC dX10_guest_115 ic0 ?_
              refine aw_istore_n (pc := 116) (i := 3) hC dX10_guest_116 rfl rfl (by decide) ?_
              refine aw_iconst (pc := 117) (v := 0) hC dX10_guest_117 ic0 ?_
              refine aw_istore (pc := 118) hC dX10_guest_118 rfl (by decide) ?_
              have hL120 : ∀ (n : Nat) (x10 : Int32) (x11 : Int32), AW G C (qI G C 0 0) 0 0 5 μ3 120 [some (.ref (gad G 0 12)), some (.int a1), none, some (.int x10), some (.int x11)] [] (lp_X10_guest_120 a1 μ3 n x10 x11) := by
                intro n
                induction n with
                | zero => intro x10 x11; exact aw_none
                | succ n ih =>
                  intro x10 x11
                  rw [lp_X10_guest_120]
                  refine aw_iload (pc := 120) hC dX10_guest_120 rfl ?_
                  refine aw_bipush (pc := 122) (v := 8) hC dX10_guest_122 bc8 ?_
                  refine aw_icmp_ge (pc := 124) (tgt := 154) hC dX10_guest_124 (by decide) (fun _ => ?_) (fun _ => ?_)
                  · skip
                    refine aw_iload_n (pc := 154) (i := 3) hC dX10_guest_154 rfl rfl ?_
                    exact aw_iret hC dX10_guest_155
                  · skip
                    refine aw_iload_n (pc := 127) (i := 3) hC dX10_guest_127 rfl rfl ?_
                    refine aw_aload_n (pc := 128) (i := 0) hC dX10_guest_128 rfl rfl ?_
                    refine aw_iload_n (pc := 129) (i := 1) hC dX10_guest_129 rfl rfl ?_
                    refine aw_iload (pc := 130) hC dX10_guest_130 rfl ?_
                    refine aw_callVR (pc := 132) (As := [.int a1, .int x11]) hC mb_X10_sees kw1566 (by decide) (c_X10_sees G C.2.1   μ3 a1 x11) (v0 (j := 12) (by decide)) rfl rfl rfl (Nat.le_of_ble_eq_true rfl) dX10_guest_132 (fun q12 => ?_)
                    refine aw_if_eq (pc := 135) (tgt := 145) hC dX10_guest_135 (by decide) (fun _ => ?_) (fun _ => ?_)
                    · skip
                      refine aw_iconst (pc := 145) (v := 0) hC dX10_guest_145 ic0 ?_
                      refine aw_ior (pc := 146) hC dX10_guest_146 ?_
                      refine aw_istore_n (pc := 147) (i := 3) hC dX10_guest_147 rfl rfl (by decide) ?_
                      refine aw_iinc (pc := 148) (v := x11 + 1) hC dX10_guest_148 rfl (congrArg (HAdd.hAdd _) ic1) rfl (by decide) ?_
                      refine aw_goto (pc := 151) (tgt := 120) hC dX10_guest_151 (by decide) ?_
                      exact ih (x10 ||| 0) (x11 + 1)
                    · skip
                      refine aw_iconst (pc := 138) (v := 1) hC dX10_guest_138 ic1 ?_
                      refine aw_iload (pc := 139) hC dX10_guest_139 rfl ?_
                      refine aw_ishl (pc := 141) hC dX10_guest_141 ?_
                      refine aw_goto (pc := 142) (tgt := 146) hC dX10_guest_142 (by decide) ?_
                      refine aw_ior (pc := 146) hC dX10_guest_146 ?_
                      refine aw_istore_n (pc := 147) (i := 3) hC dX10_guest_147 rfl rfl (by decide) ?_
                      refine aw_iinc (pc := 148) (v := x11 + 1) hC dX10_guest_148 rfl (congrArg (HAdd.hAdd _) ic1) rfl (by decide) ?_
                      refine aw_goto (pc := 151) (tgt := 120) hC dX10_guest_151 (by decide) ?_
                      exact ih (x10 ||| (jshl 1 x11)) (x11 + 1)
              exact aw_drop [2] (hL120 4096 0 0)
      · skip
        refine aw_aload_n (pc := 45) (i := 0) hC dX10_guest_45 rfl rfl ?_
        refine aw_iload_n (pc := 46) (i := 1) hC dX10_guest_46 rfl rfl ?_
        refine aw_iload_n (pc := 47) (i := 2) hC dX10_guest_47 rfl rfl ?_
        refine aw_callVR (pc := 48) (As := [.int a1, .int a2]) hC mb_X10_of kw1539 (by decide) (c_X10_of G C.2.1   μ3 a1 a2) (v0 (j := 12) (by decide)) rfl rfl rfl (Nat.le_of_ble_eq_true rfl) dX10_guest_48 (fun q13 => ?_)
        exact aw_iret hC dX10_guest_51
    · skip
      refine aw_iconst (pc := 38) (v := 0) hC dX10_guest_38 ic0 ?_
      exact aw_iret hC dX10_guest_39
  · skip
    refine aw_if_ne (pc := 6) (tgt := 13) hC dX10_guest_6 (by decide) (fun _ => ?_) (fun _ => ?_)
    · skip
      refine aw_iconst (pc := 9) (v := 1) hC dX10_guest_9 ic1 ?_
      refine aw_goto (pc := 10) (tgt := 28) hC dX10_guest_10 (by decide) ?_
      exact hJ28 1
    · skip
      refine aw_iload_n (pc := 13) (i := 2) hC dX10_guest_13 rfl rfl ?_
      refine aw_iconst (pc := 14) (v := 0) hC dX10_guest_14 ic0 ?_
      refine aw_bipush (pc := 15) (v := 8) hC dX10_guest_15 bc8 ?_
      refine aw_callSR (pc := 17) (As := [.int a2, .int 0, .int 8]) hC ms_X10_isIn kw1394 (by decide) (c_X10_isIn G C.2.1   μ a2 0 8) rfl (Nat.le_of_ble_eq_true rfl) dX10_guest_17 (fun q14 => ?_)
      refine aw_if_ne (pc := 20) (tgt := 27) hC dX10_guest_20 (by decide) (fun _ => ?_) (fun _ => ?_)
      · skip
        refine aw_iconst (pc := 23) (v := 2) hC dX10_guest_23 ic2 ?_
        refine aw_goto (pc := 24) (tgt := 28) hC dX10_guest_24 (by decide) ?_
        exact hJ28 2
      · skip
        refine aw_iconst (pc := 27) (v := 0) hC dX10_guest_27 ic0 ?_
        exact hJ28 0
theorem dX10_from_0 : decode cX10_from 0 = .ok (.iconst 0, 1) := by decide +kernel
theorem dX10_from_1 : decode cX10_from 1 = .ok (.istore_n 2, 1) := by decide +kernel
theorem dX10_from_2 : decode cX10_from 2 = .ok (.iconst 0, 1) := by decide +kernel
theorem dX10_from_3 : decode cX10_from 3 = .ok (.istore_n 3, 1) := by decide +kernel
theorem dX10_from_4 : decode cX10_from 4 = .ok (.iload_n 3, 1) := by decide +kernel
theorem dX10_from_5 : decode cX10_from 5 = .ok (.bipush 8, 2) := by decide +kernel
theorem dX10_from_7 : decode cX10_from 7 = .ok (.if_icmp .ge 28, 3) := by decide +kernel
theorem dX10_from_10 : decode cX10_from 10 = .ok (.iload_n 2, 1) := by decide +kernel
theorem dX10_from_11 : decode cX10_from 11 = .ok (.aload_n 0, 1) := by decide +kernel
theorem dX10_from_12 : decode cX10_from 12 = .ok (.iload_n 3, 1) := by decide +kernel
theorem dX10_from_13 : decode cX10_from 13 = .ok (.iload_n 1, 1) := by decide +kernel
theorem dX10_from_14 : decode cX10_from 14 = .ok (.invokevirtual 229, 3) := by decide +kernel
theorem dX10_from_17 : decode cX10_from 17 = .ok (.ifCond .eq 9, 3) := by decide +kernel
theorem dX10_from_20 : decode cX10_from 20 = .ok (.iconst 1, 1) := by decide +kernel
theorem dX10_from_21 : decode cX10_from 21 = .ok (.iload_n 3, 1) := by decide +kernel
theorem dX10_from_22 : decode cX10_from 22 = .ok (.ishl, 1) := by decide +kernel
theorem dX10_from_23 : decode cX10_from 23 = .ok (.goto 4, 3) := by decide +kernel
theorem dX10_from_26 : decode cX10_from 26 = .ok (.iconst 0, 1) := by decide +kernel
theorem dX10_from_27 : decode cX10_from 27 = .ok (.ior, 1) := by decide +kernel
theorem dX10_from_28 : decode cX10_from 28 = .ok (.istore_n 2, 1) := by decide +kernel
theorem dX10_from_29 : decode cX10_from 29 = .ok (.iinc 3 1, 3) := by decide +kernel
theorem dX10_from_32 : decode cX10_from 32 = .ok (.goto (-28), 3) := by decide +kernel
theorem dX10_from_35 : decode cX10_from 35 = .ok (.iload_n 2, 1) := by decide +kernel
theorem dX10_from_36 : decode cX10_from 36 = .ok (.ireturn, 1) := by decide +kernel
def lp_X10_from_4 (a1 : Int32) (μ : Mem) : Nat → Int32 → Int32 → Option (Int32)
  | 0, _, _ => none
  | n + 1, x1, x2 => if 8 ≤ x2 then (some x1) else ((f_X10_isHole μ x2 a1).bind fun (q3 : Int32) => if q3 = 0 then (lp_X10_from_4 a1 μ n (x1 ||| 0) (x2 + 1)) else (lp_X10_from_4 a1 μ n (x1 ||| (jshl 1 x2)) (x2 + 1)))
def f_X10_from (μ : Mem) (a1 : Int32) : Option (Int32) := lp_X10_from_4 a1 μ 4096 0 0
set_option maxHeartbeats 4000000 in
set_option maxRecDepth 100000 in
theorem c_X10_from (G : GG) (l : Launch) (μ : Mem) (a1 : Int32) : CR G l yX10_from (.code yX10_from cX10_from 4 (some .int)) 3 [.ref (gad G 0 12), .int a1] μ (f_X10_from μ a1) := by
  refine CR.of (own := "SaturdayKeepModel") (L0 := [some (.ref (gad G 0 12)), some (.int a1), none, none]) rfl rfl rfl (Nat.le_of_ble_eq_true rfl) (fun C hl hC => ?_)
  subst hl
  delta f_X10_from
  refine aw_iconst (pc := 0) (v := 0) hC dX10_from_0 ic0 ?_
  refine aw_istore_n (pc := 1) (i := 2) hC dX10_from_1 rfl rfl (by decide) ?_
  refine aw_iconst (pc := 2) (v := 0) hC dX10_from_2 ic0 ?_
  refine aw_istore_n (pc := 3) (i := 3) hC dX10_from_3 rfl rfl (by decide) ?_
  have hL4 : ∀ (n : Nat) (x1 : Int32) (x2 : Int32), AW G C (qR G C 0 0 μ) 0 0 4 μ 4 [some (.ref (gad G 0 12)), some (.int a1), some (.int x1), some (.int x2)] [] (lp_X10_from_4 a1 μ n x1 x2) := by
    intro n
    induction n with
    | zero => intro x1 x2; exact aw_none
    | succ n ih =>
      intro x1 x2
      rw [lp_X10_from_4]
      refine aw_iload_n (pc := 4) (i := 3) hC dX10_from_4 rfl rfl ?_
      refine aw_bipush (pc := 5) (v := 8) hC dX10_from_5 bc8 ?_
      refine aw_icmp_ge (pc := 7) (tgt := 35) hC dX10_from_7 (by decide) (fun _ => ?_) (fun _ => ?_)
      · skip
        refine aw_iload_n (pc := 35) (i := 2) hC dX10_from_35 rfl rfl ?_
        exact aw_iretR hC dX10_from_36
      · skip
        refine aw_iload_n (pc := 10) (i := 2) hC dX10_from_10 rfl rfl ?_
        refine aw_aload_n (pc := 11) (i := 0) hC dX10_from_11 rfl rfl ?_
        refine aw_iload_n (pc := 12) (i := 3) hC dX10_from_12 rfl rfl ?_
        refine aw_iload_n (pc := 13) (i := 1) hC dX10_from_13 rfl rfl ?_
        refine aw_callVR (pc := 14) (As := [.int x2, .int a1]) hC mb_X10_isHole kw1574 (by decide) (c_X10_isHole G C.2.1   μ x2 a1) (v0 (j := 12) (by decide)) rfl rfl rfl (Nat.le_of_ble_eq_true rfl) dX10_from_14 (fun q3 => ?_)
        refine aw_if_eq (pc := 17) (tgt := 26) hC dX10_from_17 (by decide) (fun _ => ?_) (fun _ => ?_)
        · skip
          refine aw_iconst (pc := 26) (v := 0) hC dX10_from_26 ic0 ?_
          refine aw_ior (pc := 27) hC dX10_from_27 ?_
          refine aw_istore_n (pc := 28) (i := 2) hC dX10_from_28 rfl rfl (by decide) ?_
          refine aw_iinc (pc := 29) (v := x2 + 1) hC dX10_from_29 rfl (congrArg (HAdd.hAdd _) ic1) rfl (by decide) ?_
          refine aw_goto (pc := 32) (tgt := 4) hC dX10_from_32 (by decide) ?_
          exact ih (x1 ||| 0) (x2 + 1)
        · skip
          refine aw_iconst (pc := 20) (v := 1) hC dX10_from_20 ic1 ?_
          refine aw_iload_n (pc := 21) (i := 3) hC dX10_from_21 rfl rfl ?_
          refine aw_ishl (pc := 22) hC dX10_from_22 ?_
          refine aw_goto (pc := 23) (tgt := 27) hC dX10_from_23 (by decide) ?_
          refine aw_ior (pc := 27) hC dX10_from_27 ?_
          refine aw_istore_n (pc := 28) (i := 2) hC dX10_from_28 rfl rfl (by decide) ?_
          refine aw_iinc (pc := 29) (v := x2 + 1) hC dX10_from_29 rfl (congrArg (HAdd.hAdd _) ic1) rfl (by decide) ?_
          refine aw_goto (pc := 32) (tgt := 4) hC dX10_from_32 (by decide) ?_
          exact ih (x1 ||| (jshl 1 x2)) (x2 + 1)
  exact hL4 4096 0 0
theorem dX10_guestsIn_0 : decode cX10_guestsIn 0 = .ok (.iconst 0, 1) := by decide +kernel
theorem dX10_guestsIn_1 : decode cX10_guestsIn 1 = .ok (.istore_n 2, 1) := by decide +kernel
theorem dX10_guestsIn_2 : decode cX10_guestsIn 2 = .ok (.iconst 0, 1) := by decide +kernel
theorem dX10_guestsIn_3 : decode cX10_guestsIn 3 = .ok (.istore_n 3, 1) := by decide +kernel
theorem dX10_guestsIn_4 : decode cX10_guestsIn 4 = .ok (.iload_n 3, 1) := by decide +kernel
theorem dX10_guestsIn_5 : decode cX10_guestsIn 5 = .ok (.aload_n 0, 1) := by decide +kernel
theorem dX10_guestsIn_6 : decode cX10_guestsIn 6 = .ok (.getfield 7, 3) := by decide +kernel
theorem dX10_guestsIn_9 : decode cX10_guestsIn 9 = .ok (.iconst 3, 1) := by decide +kernel
theorem dX10_guestsIn_10 : decode cX10_guestsIn 10 = .ok (.iaload, 1) := by decide +kernel
theorem dX10_guestsIn_11 : decode cX10_guestsIn 11 = .ok (.if_icmp .ge 37, 3) := by decide +kernel
theorem dX10_guestsIn_14 : decode cX10_guestsIn 14 = .ok (.iload_n 2, 1) := by decide +kernel
theorem dX10_guestsIn_15 : decode cX10_guestsIn 15 = .ok (.aload_n 0, 1) := by decide +kernel
theorem dX10_guestsIn_16 : decode cX10_guestsIn 16 = .ok (.iload_n 3, 1) := by decide +kernel
theorem dX10_guestsIn_17 : decode cX10_guestsIn 17 = .ok (.invokevirtual 236, 3) := by decide +kernel
theorem dX10_guestsIn_20 : decode cX10_guestsIn 20 = .ok (.ifCond .eq 19, 3) := by decide +kernel
theorem dX10_guestsIn_23 : decode cX10_guestsIn 23 = .ok (.aload_n 0, 1) := by decide +kernel
theorem dX10_guestsIn_24 : decode cX10_guestsIn 24 = .ok (.iload_n 3, 1) := by decide +kernel
theorem dX10_guestsIn_25 : decode cX10_guestsIn 25 = .ok (.iconst 0, 1) := by decide +kernel
theorem dX10_guestsIn_26 : decode cX10_guestsIn 26 = .ok (.invokevirtual 49, 3) := by decide +kernel
theorem dX10_guestsIn_29 : decode cX10_guestsIn 29 = .ok (.iload_n 1, 1) := by decide +kernel
theorem dX10_guestsIn_30 : decode cX10_guestsIn 30 = .ok (.if_icmp .ne 9, 3) := by decide +kernel
theorem dX10_guestsIn_33 : decode cX10_guestsIn 33 = .ok (.iconst 1, 1) := by decide +kernel
theorem dX10_guestsIn_34 : decode cX10_guestsIn 34 = .ok (.iload_n 3, 1) := by decide +kernel
theorem dX10_guestsIn_35 : decode cX10_guestsIn 35 = .ok (.ishl, 1) := by decide +kernel
theorem dX10_guestsIn_36 : decode cX10_guestsIn 36 = .ok (.goto 4, 3) := by decide +kernel
theorem dX10_guestsIn_39 : decode cX10_guestsIn 39 = .ok (.iconst 0, 1) := by decide +kernel
theorem dX10_guestsIn_40 : decode cX10_guestsIn 40 = .ok (.ior, 1) := by decide +kernel
theorem dX10_guestsIn_41 : decode cX10_guestsIn 41 = .ok (.istore_n 2, 1) := by decide +kernel
theorem dX10_guestsIn_42 : decode cX10_guestsIn 42 = .ok (.iinc 3 1, 3) := by decide +kernel
theorem dX10_guestsIn_45 : decode cX10_guestsIn 45 = .ok (.goto (-41), 3) := by decide +kernel
theorem dX10_guestsIn_48 : decode cX10_guestsIn 48 = .ok (.iload_n 2, 1) := by decide +kernel
theorem dX10_guestsIn_49 : decode cX10_guestsIn 49 = .ok (.ireturn, 1) := by decide +kernel
def lp_X10_guestsIn_4 (a1 : Int32) (μ : Mem) : Nat → Int32 → Int32 → Option (Int32)
  | 0, _, _ => none
  | n + 1, x1, x2 => ix 3 704 (if (μ 0 13 (Int32.toNatClampNeg 3)) ≤ x2 then (some x1) else ((f_X10_isHere μ x2).bind fun (q3 : Int32) => if q3 = 0 then (lp_X10_guestsIn_4 a1 μ n (x1 ||| 0) (x2 + 1)) else ((f_X10_of μ x2 0).bind fun (q4 : Int32) => if q4 = a1 then (lp_X10_guestsIn_4 a1 μ n (x1 ||| (jshl 1 x2)) (x2 + 1)) else (lp_X10_guestsIn_4 a1 μ n (x1 ||| 0) (x2 + 1)))))
def f_X10_guestsIn (μ : Mem) (a1 : Int32) : Option (Int32) := lp_X10_guestsIn_4 a1 μ 4096 0 0
set_option maxHeartbeats 4000000 in
set_option maxRecDepth 100000 in
theorem c_X10_guestsIn (G : GG) (l : Launch) (μ : Mem) (a1 : Int32) : CR G l yX10_guestsIn (.code yX10_guestsIn cX10_guestsIn 4 (some .int)) 3 [.ref (gad G 0 12), .int a1] μ (f_X10_guestsIn μ a1) := by
  refine CR.of (own := "SaturdayKeepModel") (L0 := [some (.ref (gad G 0 12)), some (.int a1), none, none]) rfl rfl rfl (Nat.le_of_ble_eq_true rfl) (fun C hl hC => ?_)
  subst hl
  delta f_X10_guestsIn
  refine aw_iconst (pc := 0) (v := 0) hC dX10_guestsIn_0 ic0 ?_
  refine aw_istore_n (pc := 1) (i := 2) hC dX10_guestsIn_1 rfl rfl (by decide) ?_
  refine aw_iconst (pc := 2) (v := 0) hC dX10_guestsIn_2 ic0 ?_
  refine aw_istore_n (pc := 3) (i := 3) hC dX10_guestsIn_3 rfl rfl (by decide) ?_
  have hL4 : ∀ (n : Nat) (x1 : Int32) (x2 : Int32), AW G C (qR G C 0 0 μ) 0 0 4 μ 4 [some (.ref (gad G 0 12)), some (.int a1), some (.int x1), some (.int x2)] [] (lp_X10_guestsIn_4 a1 μ n x1 x2) := by
    intro n
    induction n with
    | zero => intro x1 x2; exact aw_none
    | succ n ih =>
      intro x1 x2
      rw [lp_X10_guestsIn_4]
      refine aw_iload_n (pc := 4) (i := 3) hC dX10_guestsIn_4 rfl rfl ?_
      refine aw_aload_n (pc := 5) (i := 0) hC dX10_guestsIn_5 rfl rfl ?_
      refine aw_get (pc := 6) hC inX10 (v0 (j := 12) (by decide)) rfl rfl 1 (by decide) kw1315 rfl rfl dX10_guestsIn_6 ?_
      refine aw_iconst (pc := 9) (v := 3) hC dX10_guestsIn_9 ic3 ?_
      refine aw_iaload (pc := 10) hC (v0 (j := 13) (by decide)) rfl dX10_guestsIn_10 ?_
      refine aw_icmp_ge (pc := 11) (tgt := 48) hC dX10_guestsIn_11 (by decide) (fun _ => ?_) (fun _ => ?_)
      · skip
        refine aw_iload_n (pc := 48) (i := 2) hC dX10_guestsIn_48 rfl rfl ?_
        exact aw_iretR hC dX10_guestsIn_49
      · skip
        refine aw_iload_n (pc := 14) (i := 2) hC dX10_guestsIn_14 rfl rfl ?_
        refine aw_aload_n (pc := 15) (i := 0) hC dX10_guestsIn_15 rfl rfl ?_
        refine aw_iload_n (pc := 16) (i := 3) hC dX10_guestsIn_16 rfl rfl ?_
        refine aw_callVR (pc := 17) (As := [.int x2]) hC mb_X10_isHere kw1558 (by decide) (c_X10_isHere G C.2.1   μ x2) (v0 (j := 12) (by decide)) rfl rfl rfl (Nat.le_of_ble_eq_true rfl) dX10_guestsIn_17 (fun q3 => ?_)
        refine aw_if_eq (pc := 20) (tgt := 39) hC dX10_guestsIn_20 (by decide) (fun _ => ?_) (fun _ => ?_)
        · skip
          refine aw_iconst (pc := 39) (v := 0) hC dX10_guestsIn_39 ic0 ?_
          refine aw_ior (pc := 40) hC dX10_guestsIn_40 ?_
          refine aw_istore_n (pc := 41) (i := 2) hC dX10_guestsIn_41 rfl rfl (by decide) ?_
          refine aw_iinc (pc := 42) (v := x2 + 1) hC dX10_guestsIn_42 rfl (congrArg (HAdd.hAdd _) ic1) rfl (by decide) ?_
          refine aw_goto (pc := 45) (tgt := 4) hC dX10_guestsIn_45 (by decide) ?_
          exact ih (x1 ||| 0) (x2 + 1)
        · skip
          refine aw_aload_n (pc := 23) (i := 0) hC dX10_guestsIn_23 rfl rfl ?_
          refine aw_iload_n (pc := 24) (i := 3) hC dX10_guestsIn_24 rfl rfl ?_
          refine aw_iconst (pc := 25) (v := 0) hC dX10_guestsIn_25 ic0 ?_
          refine aw_callVR (pc := 26) (As := [.int x2, .int 0]) hC mb_X10_of kw1539 (by decide) (c_X10_of G C.2.1   μ x2 0) (v0 (j := 12) (by decide)) rfl rfl rfl (Nat.le_of_ble_eq_true rfl) dX10_guestsIn_26 (fun q4 => ?_)
          refine aw_iload_n (pc := 29) (i := 1) hC dX10_guestsIn_29 rfl rfl ?_
          refine aw_icmp_ne (pc := 30) (tgt := 39) hC dX10_guestsIn_30 (by decide) (fun _ => ?_) (fun _ => ?_)
          · skip
            refine aw_iconst (pc := 33) (v := 1) hC dX10_guestsIn_33 ic1 ?_
            refine aw_iload_n (pc := 34) (i := 3) hC dX10_guestsIn_34 rfl rfl ?_
            refine aw_ishl (pc := 35) hC dX10_guestsIn_35 ?_
            refine aw_goto (pc := 36) (tgt := 40) hC dX10_guestsIn_36 (by decide) ?_
            refine aw_ior (pc := 40) hC dX10_guestsIn_40 ?_
            refine aw_istore_n (pc := 41) (i := 2) hC dX10_guestsIn_41 rfl rfl (by decide) ?_
            refine aw_iinc (pc := 42) (v := x2 + 1) hC dX10_guestsIn_42 rfl (congrArg (HAdd.hAdd _) ic1) rfl (by decide) ?_
            refine aw_goto (pc := 45) (tgt := 4) hC dX10_guestsIn_45 (by decide) ?_
            exact ih (x1 ||| (jshl 1 x2)) (x2 + 1)
          · skip
            refine aw_iconst (pc := 39) (v := 0) hC dX10_guestsIn_39 ic0 ?_
            refine aw_ior (pc := 40) hC dX10_guestsIn_40 ?_
            refine aw_istore_n (pc := 41) (i := 2) hC dX10_guestsIn_41 rfl rfl (by decide) ?_
            refine aw_iinc (pc := 42) (v := x2 + 1) hC dX10_guestsIn_42 rfl (congrArg (HAdd.hAdd _) ic1) rfl (by decide) ?_
            refine aw_goto (pc := 45) (tgt := 4) hC dX10_guestsIn_45 (by decide) ?_
            exact ih (x1 ||| 0) (x2 + 1)
  exact hL4 4096 0 0
theorem dX10_watchers_0 : decode cX10_watchers 0 = .ok (.iconst 0, 1) := by decide +kernel
theorem dX10_watchers_1 : decode cX10_watchers 1 = .ok (.istore_n 2, 1) := by decide +kernel
theorem dX10_watchers_2 : decode cX10_watchers 2 = .ok (.iconst 0, 1) := by decide +kernel
theorem dX10_watchers_3 : decode cX10_watchers 3 = .ok (.istore_n 3, 1) := by decide +kernel
theorem dX10_watchers_4 : decode cX10_watchers 4 = .ok (.iload_n 3, 1) := by decide +kernel
theorem dX10_watchers_5 : decode cX10_watchers 5 = .ok (.aload_n 0, 1) := by decide +kernel
theorem dX10_watchers_6 : decode cX10_watchers 6 = .ok (.getfield 7, 3) := by decide +kernel
theorem dX10_watchers_9 : decode cX10_watchers 9 = .ok (.iconst 3, 1) := by decide +kernel
theorem dX10_watchers_10 : decode cX10_watchers 10 = .ok (.iaload, 1) := by decide +kernel
theorem dX10_watchers_11 : decode cX10_watchers 11 = .ok (.if_icmp .ge 36, 3) := by decide +kernel
theorem dX10_watchers_14 : decode cX10_watchers 14 = .ok (.iload_n 2, 1) := by decide +kernel
theorem dX10_watchers_15 : decode cX10_watchers 15 = .ok (.aload_n 0, 1) := by decide +kernel
theorem dX10_watchers_16 : decode cX10_watchers 16 = .ok (.iload_n 3, 1) := by decide +kernel
theorem dX10_watchers_17 : decode cX10_watchers 17 = .ok (.invokevirtual 236, 3) := by decide +kernel
theorem dX10_watchers_20 : decode cX10_watchers 20 = .ok (.ifCond .eq 18, 3) := by decide +kernel
theorem dX10_watchers_23 : decode cX10_watchers 23 = .ok (.aload_n 0, 1) := by decide +kernel
theorem dX10_watchers_24 : decode cX10_watchers 24 = .ok (.iload_n 3, 1) := by decide +kernel
theorem dX10_watchers_25 : decode cX10_watchers 25 = .ok (.iload_n 1, 1) := by decide +kernel
theorem dX10_watchers_26 : decode cX10_watchers 26 = .ok (.invokevirtual 239, 3) := by decide +kernel
theorem dX10_watchers_29 : decode cX10_watchers 29 = .ok (.ifCond .eq 9, 3) := by decide +kernel
theorem dX10_watchers_32 : decode cX10_watchers 32 = .ok (.iconst 1, 1) := by decide +kernel
theorem dX10_watchers_33 : decode cX10_watchers 33 = .ok (.iload_n 3, 1) := by decide +kernel
theorem dX10_watchers_34 : decode cX10_watchers 34 = .ok (.ishl, 1) := by decide +kernel
theorem dX10_watchers_35 : decode cX10_watchers 35 = .ok (.goto 4, 3) := by decide +kernel
theorem dX10_watchers_38 : decode cX10_watchers 38 = .ok (.iconst 0, 1) := by decide +kernel
theorem dX10_watchers_39 : decode cX10_watchers 39 = .ok (.ior, 1) := by decide +kernel
theorem dX10_watchers_40 : decode cX10_watchers 40 = .ok (.istore_n 2, 1) := by decide +kernel
theorem dX10_watchers_41 : decode cX10_watchers 41 = .ok (.iinc 3 1, 3) := by decide +kernel
theorem dX10_watchers_44 : decode cX10_watchers 44 = .ok (.goto (-40), 3) := by decide +kernel
theorem dX10_watchers_47 : decode cX10_watchers 47 = .ok (.iload_n 2, 1) := by decide +kernel
theorem dX10_watchers_48 : decode cX10_watchers 48 = .ok (.ireturn, 1) := by decide +kernel
def lp_X10_watchers_4 (a1 : Int32) (μ : Mem) : Nat → Int32 → Int32 → Option (Int32)
  | 0, _, _ => none
  | n + 1, x1, x2 => ix 3 704 (if (μ 0 13 (Int32.toNatClampNeg 3)) ≤ x2 then (some x1) else ((f_X10_isHere μ x2).bind fun (q3 : Int32) => if q3 = 0 then (lp_X10_watchers_4 a1 μ n (x1 ||| 0) (x2 + 1)) else ((f_X10_sees μ x2 a1).bind fun (q4 : Int32) => if q4 = 0 then (lp_X10_watchers_4 a1 μ n (x1 ||| 0) (x2 + 1)) else (lp_X10_watchers_4 a1 μ n (x1 ||| (jshl 1 x2)) (x2 + 1)))))
def f_X10_watchers (μ : Mem) (a1 : Int32) : Option (Int32) := lp_X10_watchers_4 a1 μ 4096 0 0
set_option maxHeartbeats 4000000 in
set_option maxRecDepth 100000 in
theorem c_X10_watchers (G : GG) (l : Launch) (μ : Mem) (a1 : Int32) : CR G l yX10_watchers (.code yX10_watchers cX10_watchers 4 (some .int)) 5 [.ref (gad G 0 12), .int a1] μ (f_X10_watchers μ a1) := by
  refine CR.of (own := "SaturdayKeepModel") (L0 := [some (.ref (gad G 0 12)), some (.int a1), none, none]) rfl rfl rfl (Nat.le_of_ble_eq_true rfl) (fun C hl hC => ?_)
  subst hl
  delta f_X10_watchers
  refine aw_iconst (pc := 0) (v := 0) hC dX10_watchers_0 ic0 ?_
  refine aw_istore_n (pc := 1) (i := 2) hC dX10_watchers_1 rfl rfl (by decide) ?_
  refine aw_iconst (pc := 2) (v := 0) hC dX10_watchers_2 ic0 ?_
  refine aw_istore_n (pc := 3) (i := 3) hC dX10_watchers_3 rfl rfl (by decide) ?_
  have hL4 : ∀ (n : Nat) (x1 : Int32) (x2 : Int32), AW G C (qR G C 0 0 μ) 0 0 4 μ 4 [some (.ref (gad G 0 12)), some (.int a1), some (.int x1), some (.int x2)] [] (lp_X10_watchers_4 a1 μ n x1 x2) := by
    intro n
    induction n with
    | zero => intro x1 x2; exact aw_none
    | succ n ih =>
      intro x1 x2
      rw [lp_X10_watchers_4]
      refine aw_iload_n (pc := 4) (i := 3) hC dX10_watchers_4 rfl rfl ?_
      refine aw_aload_n (pc := 5) (i := 0) hC dX10_watchers_5 rfl rfl ?_
      refine aw_get (pc := 6) hC inX10 (v0 (j := 12) (by decide)) rfl rfl 1 (by decide) kw1315 rfl rfl dX10_watchers_6 ?_
      refine aw_iconst (pc := 9) (v := 3) hC dX10_watchers_9 ic3 ?_
      refine aw_iaload (pc := 10) hC (v0 (j := 13) (by decide)) rfl dX10_watchers_10 ?_
      refine aw_icmp_ge (pc := 11) (tgt := 47) hC dX10_watchers_11 (by decide) (fun _ => ?_) (fun _ => ?_)
      · skip
        refine aw_iload_n (pc := 47) (i := 2) hC dX10_watchers_47 rfl rfl ?_
        exact aw_iretR hC dX10_watchers_48
      · skip
        refine aw_iload_n (pc := 14) (i := 2) hC dX10_watchers_14 rfl rfl ?_
        refine aw_aload_n (pc := 15) (i := 0) hC dX10_watchers_15 rfl rfl ?_
        refine aw_iload_n (pc := 16) (i := 3) hC dX10_watchers_16 rfl rfl ?_
        refine aw_callVR (pc := 17) (As := [.int x2]) hC mb_X10_isHere kw1558 (by decide) (c_X10_isHere G C.2.1   μ x2) (v0 (j := 12) (by decide)) rfl rfl rfl (Nat.le_of_ble_eq_true rfl) dX10_watchers_17 (fun q3 => ?_)
        refine aw_if_eq (pc := 20) (tgt := 38) hC dX10_watchers_20 (by decide) (fun _ => ?_) (fun _ => ?_)
        · skip
          refine aw_iconst (pc := 38) (v := 0) hC dX10_watchers_38 ic0 ?_
          refine aw_ior (pc := 39) hC dX10_watchers_39 ?_
          refine aw_istore_n (pc := 40) (i := 2) hC dX10_watchers_40 rfl rfl (by decide) ?_
          refine aw_iinc (pc := 41) (v := x2 + 1) hC dX10_watchers_41 rfl (congrArg (HAdd.hAdd _) ic1) rfl (by decide) ?_
          refine aw_goto (pc := 44) (tgt := 4) hC dX10_watchers_44 (by decide) ?_
          exact ih (x1 ||| 0) (x2 + 1)
        · skip
          refine aw_aload_n (pc := 23) (i := 0) hC dX10_watchers_23 rfl rfl ?_
          refine aw_iload_n (pc := 24) (i := 3) hC dX10_watchers_24 rfl rfl ?_
          refine aw_iload_n (pc := 25) (i := 1) hC dX10_watchers_25 rfl rfl ?_
          refine aw_callVR (pc := 26) (As := [.int x2, .int a1]) hC mb_X10_sees kw1566 (by decide) (c_X10_sees G C.2.1   μ x2 a1) (v0 (j := 12) (by decide)) rfl rfl rfl (Nat.le_of_ble_eq_true rfl) dX10_watchers_26 (fun q4 => ?_)
          refine aw_if_eq (pc := 29) (tgt := 38) hC dX10_watchers_29 (by decide) (fun _ => ?_) (fun _ => ?_)
          · skip
            refine aw_iconst (pc := 38) (v := 0) hC dX10_watchers_38 ic0 ?_
            refine aw_ior (pc := 39) hC dX10_watchers_39 ?_
            refine aw_istore_n (pc := 40) (i := 2) hC dX10_watchers_40 rfl rfl (by decide) ?_
            refine aw_iinc (pc := 41) (v := x2 + 1) hC dX10_watchers_41 rfl (congrArg (HAdd.hAdd _) ic1) rfl (by decide) ?_
            refine aw_goto (pc := 44) (tgt := 4) hC dX10_watchers_44 (by decide) ?_
            exact ih (x1 ||| 0) (x2 + 1)
          · skip
            refine aw_iconst (pc := 32) (v := 1) hC dX10_watchers_32 ic1 ?_
            refine aw_iload_n (pc := 33) (i := 3) hC dX10_watchers_33 rfl rfl ?_
            refine aw_ishl (pc := 34) hC dX10_watchers_34 ?_
            refine aw_goto (pc := 35) (tgt := 39) hC dX10_watchers_35 (by decide) ?_
            refine aw_ior (pc := 39) hC dX10_watchers_39 ?_
            refine aw_istore_n (pc := 40) (i := 2) hC dX10_watchers_40 rfl rfl (by decide) ?_
            refine aw_iinc (pc := 41) (v := x2 + 1) hC dX10_watchers_41 rfl (congrArg (HAdd.hAdd _) ic1) rfl (by decide) ?_
            refine aw_goto (pc := 44) (tgt := 4) hC dX10_watchers_44 (by decide) ?_
            exact ih (x1 ||| (jshl 1 x2)) (x2 + 1)
  exact hL4 4096 0 0
theorem dX10_room_0 : decode cX10_room 0 = .ok (.aload_n 0, 1) := by decide +kernel
theorem dX10_room_1 : decode cX10_room 1 = .ok (.iload_n 1, 1) := by decide +kernel
theorem dX10_room_2 : decode cX10_room 2 = .ok (.invokestatic 273, 3) := by decide +kernel
theorem dX10_room_5 : decode cX10_room 5 = .ok (.ifCond .ne 7, 3) := by decide +kernel
theorem dX10_room_8 : decode cX10_room 8 = .ok (.iconst 1, 1) := by decide +kernel
theorem dX10_room_9 : decode cX10_room 9 = .ok (.goto 17, 3) := by decide +kernel
theorem dX10_room_12 : decode cX10_room 12 = .ok (.iload_n 2, 1) := by decide +kernel
theorem dX10_room_13 : decode cX10_room 13 = .ok (.iconst 0, 1) := by decide +kernel
theorem dX10_room_14 : decode cX10_room 14 = .ok (.iconst 3, 1) := by decide +kernel
theorem dX10_room_15 : decode cX10_room 15 = .ok (.invokestatic 45, 3) := by decide +kernel
theorem dX10_room_18 : decode cX10_room 18 = .ok (.ifCond .ne 7, 3) := by decide +kernel
theorem dX10_room_21 : decode cX10_room 21 = .ok (.iconst 2, 1) := by decide +kernel
theorem dX10_room_22 : decode cX10_room 22 = .ok (.goto 4, 3) := by decide +kernel
theorem dX10_room_25 : decode cX10_room 25 = .ok (.iconst 0, 1) := by decide +kernel
theorem dX10_room_26 : decode cX10_room 26 = .ok (.putfield 42, 3) := by decide +kernel
theorem dX10_room_29 : decode cX10_room 29 = .ok (.aload_n 0, 1) := by decide +kernel
theorem dX10_room_30 : decode cX10_room 30 = .ok (.getfield 42, 3) := by decide +kernel
theorem dX10_room_33 : decode cX10_room 33 = .ok (.ifCond .le 5, 3) := by decide +kernel
theorem dX10_room_36 : decode cX10_room 36 = .ok (.iconst 0, 1) := by decide +kernel
theorem dX10_room_37 : decode cX10_room 37 = .ok (.ireturn, 1) := by decide +kernel
theorem dX10_room_38 : decode cX10_room 38 = .ok (.iload_n 2, 1) := by decide +kernel
theorem dX10_room_39 : decode cX10_room 39 = .ok (.ifCond .ne 15, 3) := by decide +kernel
theorem dX10_room_42 : decode cX10_room 42 = .ok (.aload_n 0, 1) := by decide +kernel
theorem dX10_room_43 : decode cX10_room 43 = .ok (.getfield 7, 3) := by decide +kernel
theorem dX10_room_46 : decode cX10_room 46 = .ok (.bipush 16, 2) := by decide +kernel
theorem dX10_room_48 : decode cX10_room 48 = .ok (.iload_n 1, 1) := by decide +kernel
theorem dX10_room_49 : decode cX10_room 49 = .ok (.iadd, 1) := by decide +kernel
theorem dX10_room_50 : decode cX10_room 50 = .ok (.iaload, 1) := by decide +kernel
theorem dX10_room_51 : decode cX10_room 51 = .ok (.goto 34, 3) := by decide +kernel
theorem dX10_room_54 : decode cX10_room 54 = .ok (.iload_n 2, 1) := by decide +kernel
theorem dX10_room_55 : decode cX10_room 55 = .ok (.iconst 1, 1) := by decide +kernel
theorem dX10_room_56 : decode cX10_room 56 = .ok (.if_icmp .ne 11, 3) := by decide +kernel
theorem dX10_room_59 : decode cX10_room 59 = .ok (.aload_n 0, 1) := by decide +kernel
theorem dX10_room_60 : decode cX10_room 60 = .ok (.iload_n 1, 1) := by decide +kernel
theorem dX10_room_61 : decode cX10_room 61 = .ok (.invokevirtual 276, 3) := by decide +kernel
theorem dX10_room_64 : decode cX10_room 64 = .ok (.goto 21, 3) := by decide +kernel
theorem dX10_room_67 : decode cX10_room 67 = .ok (.iload_n 2, 1) := by decide +kernel
theorem dX10_room_68 : decode cX10_room 68 = .ok (.iconst 2, 1) := by decide +kernel
theorem dX10_room_69 : decode cX10_room 69 = .ok (.if_icmp .ne 11, 3) := by decide +kernel
theorem dX10_room_72 : decode cX10_room 72 = .ok (.aload_n 0, 1) := by decide +kernel
theorem dX10_room_73 : decode cX10_room 73 = .ok (.iload_n 1, 1) := by decide +kernel
theorem dX10_room_74 : decode cX10_room 74 = .ok (.invokevirtual 279, 3) := by decide +kernel
theorem dX10_room_77 : decode cX10_room 77 = .ok (.goto 8, 3) := by decide +kernel
theorem dX10_room_80 : decode cX10_room 80 = .ok (.aload_n 0, 1) := by decide +kernel
theorem dX10_room_81 : decode cX10_room 81 = .ok (.iload_n 1, 1) := by decide +kernel
theorem dX10_room_82 : decode cX10_room 82 = .ok (.invokevirtual 252, 3) := by decide +kernel
theorem dX10_room_85 : decode cX10_room 85 = .ok (.ireturn, 1) := by decide +kernel
def f_X10_room (μ : Mem) (a1 : Int32) (a2 : Int32) : Option (Int32 × Mem) := (f_X10_isRoom a1).bind fun (q1 : Int32) => nm (fun (x2 : Int32) => nm (upm μ 0 12 0 x2) fun (μ3 : Mem) => if (μ3 0 12 0) ≤ 0 then (if a2 = 0 then (ix (16 + a1) 704 (some ((μ3 0 13 (16 + a1).toNatClampNeg), μ3))) else (if a2 = 1 then ((f_X10_from μ3 a1).bind fun (q4 : Int32) => some (q4, μ3)) else (if a2 = 2 then ((f_X10_guestsIn μ3 a1).bind fun (q5 : Int32) => some (q5, μ3)) else ((f_X10_watchers μ3 a1).bind fun (q6 : Int32) => some (q6, μ3))))) else (some (0, μ3))) fun (J26 : Int32 → Option (Int32 × Mem)) => if q1 = 0 then (J26 1) else ((f_X10_isIn a2 0 3).bind fun (q7 : Int32) => if q7 = 0 then (J26 2) else (J26 0))
set_option maxHeartbeats 4000000 in
set_option maxRecDepth 100000 in
theorem c_X10_room (G : GG) (l : Launch) (μ : Mem) (a1 : Int32) (a2 : Int32) : CI G l yX10_room (.code yX10_room cX10_room 3 (some .int)) 6 [.ref (gad G 0 12), .int a1, .int a2] μ (f_X10_room μ a1 a2) := by
  refine CI.of (own := "SaturdayKeepModel") (L0 := [some (.ref (gad G 0 12)), some (.int a1), some (.int a2)]) rfl rfl rfl (Nat.le_of_ble_eq_true rfl) (fun C hl hC => ?_)
  subst hl
  delta f_X10_room
  refine aw_aload_n (pc := 0) (i := 0) hC dX10_room_0 rfl rfl ?_
  refine aw_iload_n (pc := 1) (i := 1) hC dX10_room_1 rfl rfl ?_
  refine aw_callSR (pc := 2) (As := [.int a1]) hC ms_X10_isRoom kw1585 (by decide) (c_X10_isRoom G C.2.1   μ a1) rfl (Nat.le_of_ble_eq_true rfl) dX10_room_2 (fun q1 => ?_)
  refine aw_nmJ (fun (J26 : Int32 → Option (Int32 × Mem)) => ∀ (x2 : Int32), AW G C (qI G C 0 0) 0 0 3 μ 26 [some (.ref (gad G 0 12)), some (.int a1), some (.int a2)] [.int x2, .ref (gad G 0 12)] (J26 x2)) (fun x2 => ?_) (fun J26 hJ26 => ?_)
  · skip
    refine aw_putIN (pc := 26) hC inX10 (v0 (j := 12) (by decide)) rfl rfl 0 (by decide) kw1314 rfl tyX10 tyX10_ok nmX10 rfl rfl (Nat.le_of_ble_eq_true rfl) rfl dX10_room_26 (fun μ3 => ?_)
    refine aw_aload_n (pc := 29) (i := 0) hC dX10_room_29 rfl rfl ?_
    refine aw_get (pc := 30) hC inX10 (v0 (j := 12) (by decide)) rfl rfl 0 (by decide) kw1314 rfl rfl dX10_room_30 ?_
    refine aw_if_le (pc := 33) (tgt := 38) hC dX10_room_33 (by decide) (fun _ => ?_) (fun _ => ?_)
    · skip
      refine aw_iload_n (pc := 38) (i := 2) hC dX10_room_38 rfl rfl ?_
      refine aw_if_ne (pc := 39) (tgt := 54) hC dX10_room_39 (by decide) (fun _ => ?_) (fun _ => ?_)
      · skip
        refine aw_aload_n (pc := 42) (i := 0) hC dX10_room_42 rfl rfl ?_
        refine aw_get (pc := 43) hC inX10 (v0 (j := 12) (by decide)) rfl rfl 1 (by decide) kw1315 rfl rfl dX10_room_43 ?_
        refine aw_bipush (pc := 46) (v := 16) hC dX10_room_46 bc16 ?_
        refine aw_iload_n (pc := 48) (i := 1) hC dX10_room_48 rfl rfl ?_
        refine aw_iadd (pc := 49) hC dX10_room_49 ?_
        refine aw_iaload (pc := 50) hC (v0 (j := 13) (by decide)) rfl dX10_room_50 ?_
        refine aw_goto (pc := 51) (tgt := 85) hC dX10_room_51 (by decide) ?_
        exact aw_iret hC dX10_room_85
      · skip
        refine aw_iload_n (pc := 54) (i := 2) hC dX10_room_54 rfl rfl ?_
        refine aw_iconst (pc := 55) (v := 1) hC dX10_room_55 ic1 ?_
        refine aw_icmp_ne (pc := 56) (tgt := 67) hC dX10_room_56 (by decide) (fun _ => ?_) (fun _ => ?_)
        · skip
          refine aw_aload_n (pc := 59) (i := 0) hC dX10_room_59 rfl rfl ?_
          refine aw_iload_n (pc := 60) (i := 1) hC dX10_room_60 rfl rfl ?_
          refine aw_callVR (pc := 61) (As := [.int a1]) hC mb_X10_from kw1588 (by decide) (c_X10_from G C.2.1   μ3 a1) (v0 (j := 12) (by decide)) rfl rfl rfl (Nat.le_of_ble_eq_true rfl) dX10_room_61 (fun q4 => ?_)
          refine aw_goto (pc := 64) (tgt := 85) hC dX10_room_64 (by decide) ?_
          exact aw_iret hC dX10_room_85
        · skip
          refine aw_iload_n (pc := 67) (i := 2) hC dX10_room_67 rfl rfl ?_
          refine aw_iconst (pc := 68) (v := 2) hC dX10_room_68 ic2 ?_
          refine aw_icmp_ne (pc := 69) (tgt := 80) hC dX10_room_69 (by decide) (fun _ => ?_) (fun _ => ?_)
          · skip
            refine aw_aload_n (pc := 72) (i := 0) hC dX10_room_72 rfl rfl ?_
            refine aw_iload_n (pc := 73) (i := 1) hC dX10_room_73 rfl rfl ?_
            refine aw_callVR (pc := 74) (As := [.int a1]) hC mb_X10_guestsIn kw1592 (by decide) (c_X10_guestsIn G C.2.1   μ3 a1) (v0 (j := 12) (by decide)) rfl rfl rfl (Nat.le_of_ble_eq_true rfl) dX10_room_74 (fun q5 => ?_)
            refine aw_goto (pc := 77) (tgt := 85) hC dX10_room_77 (by decide) ?_
            exact aw_iret hC dX10_room_85
          · skip
            refine aw_aload_n (pc := 80) (i := 0) hC dX10_room_80 rfl rfl ?_
            refine aw_iload_n (pc := 81) (i := 1) hC dX10_room_81 rfl rfl ?_
            refine aw_callVR (pc := 82) (As := [.int a1]) hC mb_X10_watchers kw1596 (by decide) (c_X10_watchers G C.2.1   μ3 a1) (v0 (j := 12) (by decide)) rfl rfl rfl (Nat.le_of_ble_eq_true rfl) dX10_room_82 (fun q6 => ?_)
            exact aw_iret hC dX10_room_85
    · skip
      refine aw_iconst (pc := 36) (v := 0) hC dX10_room_36 ic0 ?_
      exact aw_iret hC dX10_room_37
  · skip
    refine aw_if_ne (pc := 5) (tgt := 12) hC dX10_room_5 (by decide) (fun _ => ?_) (fun _ => ?_)
    · skip
      refine aw_iconst (pc := 8) (v := 1) hC dX10_room_8 ic1 ?_
      refine aw_goto (pc := 9) (tgt := 26) hC dX10_room_9 (by decide) ?_
      exact hJ26 1
    · skip
      refine aw_iload_n (pc := 12) (i := 2) hC dX10_room_12 rfl rfl ?_
      refine aw_iconst (pc := 13) (v := 0) hC dX10_room_13 ic0 ?_
      refine aw_iconst (pc := 14) (v := 3) hC dX10_room_14 ic3 ?_
      refine aw_callSR (pc := 15) (As := [.int a2, .int 0, .int 3]) hC ms_X10_isIn kw1394 (by decide) (c_X10_isIn G C.2.1   μ a2 0 3) rfl (Nat.le_of_ble_eq_true rfl) dX10_room_15 (fun q7 => ?_)
      refine aw_if_ne (pc := 18) (tgt := 25) hC dX10_room_18 (by decide) (fun _ => ?_) (fun _ => ?_)
      · skip
        refine aw_iconst (pc := 21) (v := 2) hC dX10_room_21 ic2 ?_
        refine aw_goto (pc := 22) (tgt := 26) hC dX10_room_22 (by decide) ?_
        exact hJ26 2
      · skip
        refine aw_iconst (pc := 25) (v := 0) hC dX10_room_25 ic0 ?_
        exact hJ26 0
theorem dX10_calendar_0 : decode cX10_calendar 0 = .ok (.aload_n 0, 1) := by decide +kernel
theorem dX10_calendar_1 : decode cX10_calendar 1 = .ok (.iload_n 1, 1) := by decide +kernel
theorem dX10_calendar_2 : decode cX10_calendar 2 = .ok (.iconst 0, 1) := by decide +kernel
theorem dX10_calendar_3 : decode cX10_calendar 3 = .ok (.iconst 1, 1) := by decide +kernel
theorem dX10_calendar_4 : decode cX10_calendar 4 = .ok (.invokestatic 45, 3) := by decide +kernel
theorem dX10_calendar_7 : decode cX10_calendar 7 = .ok (.ifCond .ne 7, 3) := by decide +kernel
theorem dX10_calendar_10 : decode cX10_calendar 10 = .ok (.iconst 1, 1) := by decide +kernel
theorem dX10_calendar_11 : decode cX10_calendar 11 = .ok (.goto 4, 3) := by decide +kernel
theorem dX10_calendar_14 : decode cX10_calendar 14 = .ok (.iconst 0, 1) := by decide +kernel
theorem dX10_calendar_15 : decode cX10_calendar 15 = .ok (.putfield 42, 3) := by decide +kernel
theorem dX10_calendar_18 : decode cX10_calendar 18 = .ok (.aload_n 0, 1) := by decide +kernel
theorem dX10_calendar_19 : decode cX10_calendar 19 = .ok (.getfield 42, 3) := by decide +kernel
theorem dX10_calendar_22 : decode cX10_calendar 22 = .ok (.ifCond .gt 7, 3) := by decide +kernel
theorem dX10_calendar_25 : decode cX10_calendar 25 = .ok (.iload_n 2, 1) := by decide +kernel
theorem dX10_calendar_26 : decode cX10_calendar 26 = .ok (.ifCond .ne 24, 3) := by decide +kernel
theorem dX10_calendar_29 : decode cX10_calendar 29 = .ok (.aload_n 0, 1) := by decide +kernel
theorem dX10_calendar_30 : decode cX10_calendar 30 = .ok (.getfield 42, 3) := by decide +kernel
theorem dX10_calendar_33 : decode cX10_calendar 33 = .ok (.ifCond .le 7, 3) := by decide +kernel
theorem dX10_calendar_36 : decode cX10_calendar 36 = .ok (.iconst 0, 1) := by decide +kernel
theorem dX10_calendar_37 : decode cX10_calendar 37 = .ok (.goto 12, 3) := by decide +kernel
theorem dX10_calendar_40 : decode cX10_calendar 40 = .ok (.aload_n 0, 1) := by decide +kernel
theorem dX10_calendar_41 : decode cX10_calendar 41 = .ok (.getfield 7, 3) := by decide +kernel
theorem dX10_calendar_44 : decode cX10_calendar 44 = .ok (.bipush 12, 2) := by decide +kernel
theorem dX10_calendar_46 : decode cX10_calendar 46 = .ok (.iload_n 1, 1) := by decide +kernel
theorem dX10_calendar_47 : decode cX10_calendar 47 = .ok (.iadd, 1) := by decide +kernel
theorem dX10_calendar_48 : decode cX10_calendar 48 = .ok (.iaload, 1) := by decide +kernel
theorem dX10_calendar_49 : decode cX10_calendar 49 = .ok (.ireturn, 1) := by decide +kernel
theorem dX10_calendar_50 : decode cX10_calendar 50 = .ok (.iconst 0, 1) := by decide +kernel
theorem dX10_calendar_51 : decode cX10_calendar 51 = .ok (.istore_n 3, 1) := by decide +kernel
theorem dX10_calendar_52 : decode cX10_calendar 52 = .ok (.aload_n 0, 1) := by decide +kernel
theorem dX10_calendar_53 : decode cX10_calendar 53 = .ok (.iload_n 1, 1) := by decide +kernel
theorem dX10_calendar_54 : decode cX10_calendar 54 = .ok (.aload_n 0, 1) := by decide +kernel
theorem dX10_calendar_55 : decode cX10_calendar 55 = .ok (.getfield 7, 3) := by decide +kernel
theorem dX10_calendar_58 : decode cX10_calendar 58 = .ok (.bipush 10, 2) := by decide +kernel
theorem dX10_calendar_60 : decode cX10_calendar 60 = .ok (.iaload, 1) := by decide +kernel
theorem dX10_calendar_61 : decode cX10_calendar 61 = .ok (.iload_n 3, 1) := by decide +kernel
theorem dX10_calendar_62 : decode cX10_calendar 62 = .ok (.iadd, 1) := by decide +kernel
theorem dX10_calendar_63 : decode cX10_calendar 63 = .ok (.invokevirtual 226, 3) := by decide +kernel
theorem dX10_calendar_66 : decode cX10_calendar 66 = .ok (.ifCond .ne 9, 3) := by decide +kernel
theorem dX10_calendar_69 : decode cX10_calendar 69 = .ok (.iinc 3 1, 3) := by decide +kernel
theorem dX10_calendar_72 : decode cX10_calendar 72 = .ok (.goto (-20), 3) := by decide +kernel
theorem dX10_calendar_75 : decode cX10_calendar 75 = .ok (.iload_n 3, 1) := by decide +kernel
theorem dX10_calendar_76 : decode cX10_calendar 76 = .ok (.ireturn, 1) := by decide +kernel
def lp_X10_calendar_52 (a1 : Int32) (μ3 : Mem) : Nat → Int32 → Option (Int32 × Mem)
  | 0, _ => none
  | n + 1, x4 => ix 10 704 ((f_X10_isSaturday μ3 a1 ((μ3 0 13 (Int32.toNatClampNeg 10)) + x4)).bind fun (q5 : Int32) => if q5 = 0 then (lp_X10_calendar_52 a1 μ3 n (x4 + 1)) else (some (x4, μ3)))
def f_X10_calendar (μ : Mem) (a1 : Int32) (a2 : Int32) : Option (Int32 × Mem) := (f_X10_isIn a1 0 1).bind fun (q1 : Int32) => nm (fun (x2 : Int32) => nm (upm μ 0 12 0 x2) fun (μ3 : Mem) => nm (if (μ3 0 12 0) ≤ 0 then (ix (12 + a1) 704 (some ((μ3 0 13 (12 + a1).toNatClampNeg), μ3))) else (some (0, μ3))) fun (J29 : Option (Int32 × Mem)) => if 0 < (μ3 0 12 0) then (J29) else (if a2 = 0 then (J29) else (lp_X10_calendar_52 a1 μ3 4096 0))) fun (J15 : Int32 → Option (Int32 × Mem)) => if q1 = 0 then (J15 1) else (J15 0)
set_option maxHeartbeats 4000000 in
set_option maxRecDepth 100000 in
theorem c_X10_calendar (G : GG) (l : Launch) (μ : Mem) (a1 : Int32) (a2 : Int32) : CI G l yX10_calendar (.code yX10_calendar cX10_calendar 4 (some .int)) 2 [.ref (gad G 0 12), .int a1, .int a2] μ (f_X10_calendar μ a1 a2) := by
  refine CI.of (own := "SaturdayKeepModel") (L0 := [some (.ref (gad G 0 12)), some (.int a1), some (.int a2), none]) rfl rfl rfl (Nat.le_of_ble_eq_true rfl) (fun C hl hC => ?_)
  subst hl
  delta f_X10_calendar
  refine aw_aload_n (pc := 0) (i := 0) hC dX10_calendar_0 rfl rfl ?_
  refine aw_iload_n (pc := 1) (i := 1) hC dX10_calendar_1 rfl rfl ?_
  refine aw_iconst (pc := 2) (v := 0) hC dX10_calendar_2 ic0 ?_
  refine aw_iconst (pc := 3) (v := 1) hC dX10_calendar_3 ic1 ?_
  refine aw_callSR (pc := 4) (As := [.int a1, .int 0, .int 1]) hC ms_X10_isIn kw1394 (by decide) (c_X10_isIn G C.2.1   μ a1 0 1) rfl (Nat.le_of_ble_eq_true rfl) dX10_calendar_4 (fun q1 => ?_)
  refine aw_nmJ (fun (J15 : Int32 → Option (Int32 × Mem)) => ∀ (x2 : Int32), AW G C (qI G C 0 0) 0 0 4 μ 15 [some (.ref (gad G 0 12)), some (.int a1), some (.int a2), none] [.int x2, .ref (gad G 0 12)] (J15 x2)) (fun x2 => ?_) (fun J15 hJ15 => ?_)
  · skip
    refine aw_putIN (pc := 15) hC inX10 (v0 (j := 12) (by decide)) rfl rfl 0 (by decide) kw1314 rfl tyX10 tyX10_ok nmX10 rfl rfl (Nat.le_of_ble_eq_true rfl) rfl dX10_calendar_15 (fun μ3 => ?_)
    refine aw_aload_n (pc := 18) (i := 0) hC dX10_calendar_18 rfl rfl ?_
    refine aw_get (pc := 19) hC inX10 (v0 (j := 12) (by decide)) rfl rfl 0 (by decide) kw1314 rfl rfl dX10_calendar_19 ?_
    refine aw_nmJ (fun (J29 : Option (Int32 × Mem)) => AW G C (qI G C 0 0) 0 0 4 μ3 29 [some (.ref (gad G 0 12)), some (.int a1), none, none] [] (J29)) ?_ (fun J29 hJ29 => ?_)
    · skip
      refine aw_aload_n (pc := 29) (i := 0) hC dX10_calendar_29 rfl rfl ?_
      refine aw_get (pc := 30) hC inX10 (v0 (j := 12) (by decide)) rfl rfl 0 (by decide) kw1314 rfl rfl dX10_calendar_30 ?_
      refine aw_if_le (pc := 33) (tgt := 40) hC dX10_calendar_33 (by decide) (fun _ => ?_) (fun _ => ?_)
      · skip
        refine aw_aload_n (pc := 40) (i := 0) hC dX10_calendar_40 rfl rfl ?_
        refine aw_get (pc := 41) hC inX10 (v0 (j := 12) (by decide)) rfl rfl 1 (by decide) kw1315 rfl rfl dX10_calendar_41 ?_
        refine aw_bipush (pc := 44) (v := 12) hC dX10_calendar_44 bc12 ?_
        refine aw_iload_n (pc := 46) (i := 1) hC dX10_calendar_46 rfl rfl ?_
        refine aw_iadd (pc := 47) hC dX10_calendar_47 ?_
        refine aw_iaload (pc := 48) hC (v0 (j := 13) (by decide)) rfl dX10_calendar_48 ?_
        exact aw_iret hC dX10_calendar_49
      · skip
        refine aw_iconst (pc := 36) (v := 0) hC dX10_calendar_36 ic0 ?_
        refine aw_goto (pc := 37) (tgt := 49) hC dX10_calendar_37 (by decide) ?_
        exact aw_iret hC dX10_calendar_49
    · skip
      refine aw_if_gt (pc := 22) (tgt := 29) hC dX10_calendar_22 (by decide) (fun _ => ?_) (fun _ => ?_)
      · skip
        exact aw_drop [2] (hJ29)
      · skip
        refine aw_iload_n (pc := 25) (i := 2) hC dX10_calendar_25 rfl rfl ?_
        refine aw_if_ne (pc := 26) (tgt := 50) hC dX10_calendar_26 (by decide) (fun _ => ?_) (fun _ => ?_)
        · skip
          exact aw_drop [2] (hJ29)
        · skip
          refine aw_iconst (pc := 50) (v := 0) hC dX10_calendar_50 ic0 ?_
          refine aw_istore_n (pc := 51) (i := 3) hC dX10_calendar_51 rfl rfl (by decide) ?_
          have hL52 : ∀ (n : Nat) (x4 : Int32), AW G C (qI G C 0 0) 0 0 4 μ3 52 [some (.ref (gad G 0 12)), some (.int a1), none, some (.int x4)] [] (lp_X10_calendar_52 a1 μ3 n x4) := by
            intro n
            induction n with
            | zero => intro x4; exact aw_none
            | succ n ih =>
              intro x4
              rw [lp_X10_calendar_52]
              refine aw_aload_n (pc := 52) (i := 0) hC dX10_calendar_52 rfl rfl ?_
              refine aw_iload_n (pc := 53) (i := 1) hC dX10_calendar_53 rfl rfl ?_
              refine aw_aload_n (pc := 54) (i := 0) hC dX10_calendar_54 rfl rfl ?_
              refine aw_get (pc := 55) hC inX10 (v0 (j := 12) (by decide)) rfl rfl 1 (by decide) kw1315 rfl rfl dX10_calendar_55 ?_
              refine aw_bipush (pc := 58) (v := 10) hC dX10_calendar_58 bc10 ?_
              refine aw_iaload (pc := 60) hC (v0 (j := 13) (by decide)) rfl dX10_calendar_60 ?_
              refine aw_iload_n (pc := 61) (i := 3) hC dX10_calendar_61 rfl rfl ?_
              refine aw_iadd (pc := 62) hC dX10_calendar_62 ?_
              refine aw_callVR (pc := 63) (As := [.int a1, .int ((μ3 0 13 (Int32.toNatClampNeg 10)) + x4)]) hC mb_X10_isSaturday kw1554 (by decide) (c_X10_isSaturday G C.2.1   μ3 a1 ((μ3 0 13 (Int32.toNatClampNeg 10)) + x4)) (v0 (j := 12) (by decide)) rfl rfl rfl (Nat.le_of_ble_eq_true rfl) dX10_calendar_63 (fun q5 => ?_)
              refine aw_if_ne (pc := 66) (tgt := 75) hC dX10_calendar_66 (by decide) (fun _ => ?_) (fun _ => ?_)
              · skip
                refine aw_iinc (pc := 69) (v := x4 + 1) hC dX10_calendar_69 rfl (congrArg (HAdd.hAdd _) ic1) rfl (by decide) ?_
                refine aw_goto (pc := 72) (tgt := 52) hC dX10_calendar_72 (by decide) ?_
                exact ih (x4 + 1)
              · skip
                refine aw_iload_n (pc := 75) (i := 3) hC dX10_calendar_75 rfl rfl ?_
                exact aw_iret hC dX10_calendar_76
          exact aw_drop [2] (hL52 4096 0)
  · skip
    refine aw_if_ne (pc := 7) (tgt := 14) hC dX10_calendar_7 (by decide) (fun _ => ?_) (fun _ => ?_)
    · skip
      refine aw_iconst (pc := 10) (v := 1) hC dX10_calendar_10 ic1 ?_
      refine aw_goto (pc := 11) (tgt := 15) hC dX10_calendar_11 (by decide) ?_
      exact hJ15 1
    · skip
      refine aw_iconst (pc := 14) (v := 0) hC dX10_calendar_14 ic0 ?_
      exact hJ15 0
theorem dX10_saturday_0 : decode cX10_saturday 0 = .ok (.aload_n 0, 1) := by decide +kernel
theorem dX10_saturday_1 : decode cX10_saturday 1 = .ok (.iload_n 1, 1) := by decide +kernel
theorem dX10_saturday_2 : decode cX10_saturday 2 = .ok (.iconst 0, 1) := by decide +kernel
theorem dX10_saturday_3 : decode cX10_saturday 3 = .ok (.iconst 1, 1) := by decide +kernel
theorem dX10_saturday_4 : decode cX10_saturday 4 = .ok (.invokestatic 45, 3) := by decide +kernel
theorem dX10_saturday_7 : decode cX10_saturday 7 = .ok (.ifCond .ne 7, 3) := by decide +kernel
theorem dX10_saturday_10 : decode cX10_saturday 10 = .ok (.iconst 1, 1) := by decide +kernel
theorem dX10_saturday_11 : decode cX10_saturday 11 = .ok (.goto 19, 3) := by decide +kernel
theorem dX10_saturday_14 : decode cX10_saturday 14 = .ok (.iload_n 2, 1) := by decide +kernel
theorem dX10_saturday_15 : decode cX10_saturday 15 = .ok (.iconst 0, 1) := by decide +kernel
theorem dX10_saturday_16 : decode cX10_saturday 16 = .ok (.sipush 9999, 3) := by decide +kernel
theorem dX10_saturday_19 : decode cX10_saturday 19 = .ok (.invokestatic 45, 3) := by decide +kernel
theorem dX10_saturday_22 : decode cX10_saturday 22 = .ok (.ifCond .ne 7, 3) := by decide +kernel
theorem dX10_saturday_25 : decode cX10_saturday 25 = .ok (.iconst 2, 1) := by decide +kernel
theorem dX10_saturday_26 : decode cX10_saturday 26 = .ok (.goto 4, 3) := by decide +kernel
theorem dX10_saturday_29 : decode cX10_saturday 29 = .ok (.iconst 0, 1) := by decide +kernel
theorem dX10_saturday_30 : decode cX10_saturday 30 = .ok (.putfield 42, 3) := by decide +kernel
theorem dX10_saturday_33 : decode cX10_saturday 33 = .ok (.aload_n 0, 1) := by decide +kernel
theorem dX10_saturday_34 : decode cX10_saturday 34 = .ok (.getfield 42, 3) := by decide +kernel
theorem dX10_saturday_37 : decode cX10_saturday 37 = .ok (.ifCond .ne 16, 3) := by decide +kernel
theorem dX10_saturday_40 : decode cX10_saturday 40 = .ok (.aload_n 0, 1) := by decide +kernel
theorem dX10_saturday_41 : decode cX10_saturday 41 = .ok (.iload_n 1, 1) := by decide +kernel
theorem dX10_saturday_42 : decode cX10_saturday 42 = .ok (.iload_n 2, 1) := by decide +kernel
theorem dX10_saturday_43 : decode cX10_saturday 43 = .ok (.invokevirtual 226, 3) := by decide +kernel
theorem dX10_saturday_46 : decode cX10_saturday 46 = .ok (.ifCond .eq 7, 3) := by decide +kernel
theorem dX10_saturday_49 : decode cX10_saturday 49 = .ok (.iconst 1, 1) := by decide +kernel
theorem dX10_saturday_50 : decode cX10_saturday 50 = .ok (.goto 4, 3) := by decide +kernel
theorem dX10_saturday_53 : decode cX10_saturday 53 = .ok (.iconst 0, 1) := by decide +kernel
theorem dX10_saturday_54 : decode cX10_saturday 54 = .ok (.ireturn, 1) := by decide +kernel
def f_X10_saturday (μ : Mem) (a1 : Int32) (a2 : Int32) : Option (Int32 × Mem) := (f_X10_isIn a1 0 1).bind fun (q1 : Int32) => nm (fun (x2 : Int32) => nm (upm μ 0 12 0 x2) fun (μ3 : Mem) => if (μ3 0 12 0) = 0 then ((f_X10_isSaturday μ3 a1 a2).bind fun (q4 : Int32) => if q4 = 0 then (some (0, μ3)) else (some (1, μ3))) else (some (0, μ3))) fun (J30 : Int32 → Option (Int32 × Mem)) => if q1 = 0 then (J30 1) else ((f_X10_isIn a2 0 9999).bind fun (q5 : Int32) => if q5 = 0 then (J30 2) else (J30 0))
set_option maxHeartbeats 4000000 in
set_option maxRecDepth 100000 in
theorem c_X10_saturday (G : GG) (l : Launch) (μ : Mem) (a1 : Int32) (a2 : Int32) : CI G l yX10_saturday (.code yX10_saturday cX10_saturday 3 (some .boolean)) 2 [.ref (gad G 0 12), .int a1, .int a2] μ (f_X10_saturday μ a1 a2) := by
  refine CI.of (own := "SaturdayKeepModel") (L0 := [some (.ref (gad G 0 12)), some (.int a1), some (.int a2)]) rfl rfl rfl (Nat.le_of_ble_eq_true rfl) (fun C hl hC => ?_)
  subst hl
  delta f_X10_saturday
  refine aw_aload_n (pc := 0) (i := 0) hC dX10_saturday_0 rfl rfl ?_
  refine aw_iload_n (pc := 1) (i := 1) hC dX10_saturday_1 rfl rfl ?_
  refine aw_iconst (pc := 2) (v := 0) hC dX10_saturday_2 ic0 ?_
  refine aw_iconst (pc := 3) (v := 1) hC dX10_saturday_3 ic1 ?_
  refine aw_callSR (pc := 4) (As := [.int a1, .int 0, .int 1]) hC ms_X10_isIn kw1394 (by decide) (c_X10_isIn G C.2.1   μ a1 0 1) rfl (Nat.le_of_ble_eq_true rfl) dX10_saturday_4 (fun q1 => ?_)
  refine aw_nmJ (fun (J30 : Int32 → Option (Int32 × Mem)) => ∀ (x2 : Int32), AW G C (qI G C 0 0) 0 0 3 μ 30 [some (.ref (gad G 0 12)), some (.int a1), some (.int a2)] [.int x2, .ref (gad G 0 12)] (J30 x2)) (fun x2 => ?_) (fun J30 hJ30 => ?_)
  · skip
    refine aw_putIN (pc := 30) hC inX10 (v0 (j := 12) (by decide)) rfl rfl 0 (by decide) kw1314 rfl tyX10 tyX10_ok nmX10 rfl rfl (Nat.le_of_ble_eq_true rfl) rfl dX10_saturday_30 (fun μ3 => ?_)
    refine aw_aload_n (pc := 33) (i := 0) hC dX10_saturday_33 rfl rfl ?_
    refine aw_get (pc := 34) hC inX10 (v0 (j := 12) (by decide)) rfl rfl 0 (by decide) kw1314 rfl rfl dX10_saturday_34 ?_
    refine aw_if_ne (pc := 37) (tgt := 53) hC dX10_saturday_37 (by decide) (fun _ => ?_) (fun _ => ?_)
    · skip
      refine aw_aload_n (pc := 40) (i := 0) hC dX10_saturday_40 rfl rfl ?_
      refine aw_iload_n (pc := 41) (i := 1) hC dX10_saturday_41 rfl rfl ?_
      refine aw_iload_n (pc := 42) (i := 2) hC dX10_saturday_42 rfl rfl ?_
      refine aw_callVR (pc := 43) (As := [.int a1, .int a2]) hC mb_X10_isSaturday kw1554 (by decide) (c_X10_isSaturday G C.2.1   μ3 a1 a2) (v0 (j := 12) (by decide)) rfl rfl rfl (Nat.le_of_ble_eq_true rfl) dX10_saturday_43 (fun q4 => ?_)
      refine aw_if_eq (pc := 46) (tgt := 53) hC dX10_saturday_46 (by decide) (fun _ => ?_) (fun _ => ?_)
      · skip
        refine aw_iconst (pc := 53) (v := 0) hC dX10_saturday_53 ic0 ?_
        exact aw_zret0 hC dX10_saturday_54
      · skip
        refine aw_iconst (pc := 49) (v := 1) hC dX10_saturday_49 ic1 ?_
        refine aw_goto (pc := 50) (tgt := 54) hC dX10_saturday_50 (by decide) ?_
        exact aw_zret1 hC dX10_saturday_54
    · skip
      refine aw_iconst (pc := 53) (v := 0) hC dX10_saturday_53 ic0 ?_
      exact aw_zret0 hC dX10_saturday_54
  · skip
    refine aw_if_ne (pc := 7) (tgt := 14) hC dX10_saturday_7 (by decide) (fun _ => ?_) (fun _ => ?_)
    · skip
      refine aw_iconst (pc := 10) (v := 1) hC dX10_saturday_10 ic1 ?_
      refine aw_goto (pc := 11) (tgt := 30) hC dX10_saturday_11 (by decide) ?_
      exact hJ30 1
    · skip
      refine aw_iload_n (pc := 14) (i := 2) hC dX10_saturday_14 rfl rfl ?_
      refine aw_iconst (pc := 15) (v := 0) hC dX10_saturday_15 ic0 ?_
      refine aw_sipush (pc := 16) (v := 9999) hC dX10_saturday_16 sc9999 ?_
      refine aw_callSR (pc := 19) (As := [.int a2, .int 0, .int 9999]) hC ms_X10_isIn kw1394 (by decide) (c_X10_isIn G C.2.1   μ a2 0 9999) rfl (Nat.le_of_ble_eq_true rfl) dX10_saturday_19 (fun q5 => ?_)
      refine aw_if_ne (pc := 22) (tgt := 29) hC dX10_saturday_22 (by decide) (fun _ => ?_) (fun _ => ?_)
      · skip
        refine aw_iconst (pc := 25) (v := 2) hC dX10_saturday_25 ic2 ?_
        refine aw_goto (pc := 26) (tgt := 30) hC dX10_saturday_26 (by decide) ?_
        exact hJ30 2
      · skip
        refine aw_iconst (pc := 29) (v := 0) hC dX10_saturday_29 ic0 ?_
        exact hJ30 0
theorem dX10_remembers_0 : decode cX10_remembers 0 = .ok (.aload_n 0, 1) := by decide +kernel
theorem dX10_remembers_1 : decode cX10_remembers 1 = .ok (.getfield 172, 3) := by decide +kernel
theorem dX10_remembers_4 : decode cX10_remembers 4 = .ok (.bipush 12, 2) := by decide +kernel
theorem dX10_remembers_6 : decode cX10_remembers 6 = .ok (.if_icmp .ne 44, 3) := by decide +kernel
theorem dX10_remembers_9 : decode cX10_remembers 9 = .ok (.iconst 0, 1) := by decide +kernel
theorem dX10_remembers_10 : decode cX10_remembers 10 = .ok (.istore_n 1, 1) := by decide +kernel
theorem dX10_remembers_11 : decode cX10_remembers 11 = .ok (.iload_n 1, 1) := by decide +kernel
theorem dX10_remembers_12 : decode cX10_remembers 12 = .ok (.sipush 3344, 3) := by decide +kernel
theorem dX10_remembers_15 : decode cX10_remembers 15 = .ok (.if_icmp .ge 25, 3) := by decide +kernel
theorem dX10_remembers_18 : decode cX10_remembers 18 = .ok (.aload_n 0, 1) := by decide +kernel
theorem dX10_remembers_19 : decode cX10_remembers 19 = .ok (.getfield 19, 3) := by decide +kernel
theorem dX10_remembers_22 : decode cX10_remembers 22 = .ok (.iload_n 1, 1) := by decide +kernel
theorem dX10_remembers_23 : decode cX10_remembers 23 = .ok (.aload_n 0, 1) := by decide +kernel
theorem dX10_remembers_24 : decode cX10_remembers 24 = .ok (.getfield 19, 3) := by decide +kernel
theorem dX10_remembers_27 : decode cX10_remembers 27 = .ok (.iload_n 1, 1) := by decide +kernel
theorem dX10_remembers_28 : decode cX10_remembers 28 = .ok (.sipush 304, 3) := by decide +kernel
theorem dX10_remembers_31 : decode cX10_remembers 31 = .ok (.iadd, 1) := by decide +kernel
theorem dX10_remembers_32 : decode cX10_remembers 32 = .ok (.iaload, 1) := by decide +kernel
theorem dX10_remembers_33 : decode cX10_remembers 33 = .ok (.iastore, 1) := by decide +kernel
theorem dX10_remembers_34 : decode cX10_remembers 34 = .ok (.iinc 1 1, 3) := by decide +kernel
theorem dX10_remembers_37 : decode cX10_remembers 37 = .ok (.goto (-26), 3) := by decide +kernel
theorem dX10_remembers_40 : decode cX10_remembers 40 = .ok (.aload_n 0, 1) := by decide +kernel
theorem dX10_remembers_41 : decode cX10_remembers 41 = .ok (.dup, 1) := by decide +kernel
theorem dX10_remembers_42 : decode cX10_remembers 42 = .ok (.getfield 172, 3) := by decide +kernel
theorem dX10_remembers_45 : decode cX10_remembers 45 = .ok (.iconst 1, 1) := by decide +kernel
theorem dX10_remembers_46 : decode cX10_remembers 46 = .ok (.isub, 1) := by decide +kernel
theorem dX10_remembers_47 : decode cX10_remembers 47 = .ok (.putfield 172, 3) := by decide +kernel
theorem dX10_remembers_50 : decode cX10_remembers 50 = .ok (.iconst 0, 1) := by decide +kernel
theorem dX10_remembers_51 : decode cX10_remembers 51 = .ok (.istore_n 1, 1) := by decide +kernel
theorem dX10_remembers_52 : decode cX10_remembers 52 = .ok (.iload_n 1, 1) := by decide +kernel
theorem dX10_remembers_53 : decode cX10_remembers 53 = .ok (.sipush 304, 3) := by decide +kernel
theorem dX10_remembers_56 : decode cX10_remembers 56 = .ok (.if_icmp .ge 30, 3) := by decide +kernel
theorem dX10_remembers_59 : decode cX10_remembers 59 = .ok (.aload_n 0, 1) := by decide +kernel
theorem dX10_remembers_60 : decode cX10_remembers 60 = .ok (.getfield 19, 3) := by decide +kernel
theorem dX10_remembers_63 : decode cX10_remembers 63 = .ok (.sipush 304, 3) := by decide +kernel
theorem dX10_remembers_66 : decode cX10_remembers 66 = .ok (.aload_n 0, 1) := by decide +kernel
theorem dX10_remembers_67 : decode cX10_remembers 67 = .ok (.getfield 172, 3) := by decide +kernel
theorem dX10_remembers_70 : decode cX10_remembers 70 = .ok (.imul, 1) := by decide +kernel
theorem dX10_remembers_71 : decode cX10_remembers 71 = .ok (.iload_n 1, 1) := by decide +kernel
theorem dX10_remembers_72 : decode cX10_remembers 72 = .ok (.iadd, 1) := by decide +kernel
theorem dX10_remembers_73 : decode cX10_remembers 73 = .ok (.aload_n 0, 1) := by decide +kernel
theorem dX10_remembers_74 : decode cX10_remembers 74 = .ok (.getfield 7, 3) := by decide +kernel
theorem dX10_remembers_77 : decode cX10_remembers 77 = .ok (.iload_n 1, 1) := by decide +kernel
theorem dX10_remembers_78 : decode cX10_remembers 78 = .ok (.iaload, 1) := by decide +kernel
theorem dX10_remembers_79 : decode cX10_remembers 79 = .ok (.iastore, 1) := by decide +kernel
theorem dX10_remembers_80 : decode cX10_remembers 80 = .ok (.iinc 1 1, 3) := by decide +kernel
theorem dX10_remembers_83 : decode cX10_remembers 83 = .ok (.goto (-31), 3) := by decide +kernel
theorem dX10_remembers_86 : decode cX10_remembers 86 = .ok (.aload_n 0, 1) := by decide +kernel
theorem dX10_remembers_87 : decode cX10_remembers 87 = .ok (.dup, 1) := by decide +kernel
theorem dX10_remembers_88 : decode cX10_remembers 88 = .ok (.getfield 172, 3) := by decide +kernel
theorem dX10_remembers_91 : decode cX10_remembers 91 = .ok (.iconst 1, 1) := by decide +kernel
theorem dX10_remembers_92 : decode cX10_remembers 92 = .ok (.iadd, 1) := by decide +kernel
theorem dX10_remembers_93 : decode cX10_remembers 93 = .ok (.putfield 172, 3) := by decide +kernel
theorem dX10_remembers_96 : decode cX10_remembers 96 = .ok (.return_, 1) := by decide +kernel
def lp_X10_remembers_52 (k86 : Mem → Option (Mem)) : Nat → Int32 → Mem → Option (Mem)
  | 0, _, _ => none
  | n + 1, x3, μ4 => if 304 ≤ x3 then (k86 μ4) else (ix x3 704 (ix ((304 * (μ4 0 12 6)) + x3) 3648 (nm (upm μ4 0 16 ((304 * (μ4 0 12 6)) + x3).toNatClampNeg (μ4 0 13 x3.toNatClampNeg)) fun (μ5 : Mem) => lp_X10_remembers_52 k86 n (x3 + 1) μ5)))
def lp_X10_remembers_11 (k40 : Mem → Option (Mem)) : Nat → Int32 → Mem → Option (Mem)
  | 0, _, _ => none
  | n + 1, x8, μ9 => if 3344 ≤ x8 then (k40 μ9) else (ix (x8 + 304) 3648 (ix x8 3648 (nm (upm μ9 0 16 x8.toNatClampNeg (μ9 0 16 (x8 + 304).toNatClampNeg)) fun (μ10 : Mem) => lp_X10_remembers_11 k40 n (x8 + 1) μ10)))
def f_X10_remembers (μ : Mem) : Option (Mem) := nm (fun (μ1 : Mem) => lp_X10_remembers_52 (fun (μ2 : Mem) => nm (upm μ2 0 12 6 ((μ2 0 12 6) + 1)) fun (μ6 : Mem) => some μ6) 4096 0 μ1) fun (J50 : Mem → Option (Mem)) => if (μ 0 12 6) = 12 then (lp_X10_remembers_11 (fun (μ7 : Mem) => nm (upm μ7 0 12 6 ((μ7 0 12 6) - 1)) fun (μ11 : Mem) => J50 μ11) 4096 0 μ) else (J50 μ)
set_option maxHeartbeats 4000000 in
set_option maxRecDepth 100000 in
theorem c_X10_remembers (G : GG) (l : Launch) (μ : Mem) : CV G l yX10_remembers (.code yX10_remembers cX10_remembers 2 none) 1 [.ref (gad G 0 12)] μ (f_X10_remembers μ) := by
  refine CV.of (own := "SaturdayKeepModel") (L0 := [some (.ref (gad G 0 12)), none]) rfl rfl rfl (Nat.le_of_ble_eq_true rfl) (fun C hl hC => ?_)
  subst hl
  delta f_X10_remembers
  refine aw_aload_n (pc := 0) (i := 0) hC dX10_remembers_0 rfl rfl ?_
  refine aw_get (pc := 1) hC inX10 (v0 (j := 12) (by decide)) rfl rfl 6 (by decide) kw1320 rfl rfl dX10_remembers_1 ?_
  refine aw_bipush (pc := 4) (v := 12) hC dX10_remembers_4 bc12 ?_
  refine aw_nmJ (fun (J50 : Mem → Option (Mem)) => ∀ (μ1 : Mem), AW G C (qV G C 0 0) 0 0 2 μ1 50 [some (.ref (gad G 0 12)), none] [] (J50 μ1)) (fun μ1 => ?_) (fun J50 hJ50 => ?_)
  · skip
    refine aw_iconst (pc := 50) (v := 0) hC dX10_remembers_50 ic0 ?_
    refine aw_istore_n (pc := 51) (i := 1) hC dX10_remembers_51 rfl rfl (by decide) ?_
    have hL52 : ∀ (k86 : Mem → Option (Mem)) (hk86 : ∀ (μ2 : Mem), AW G C (qV G C 0 0) 0 0 2 μ2 86 [some (.ref (gad G 0 12)), none] [] (k86 μ2)) (n : Nat) (x3 : Int32) (μ4 : Mem), AW G C (qV G C 0 0) 0 0 2 μ4 52 [some (.ref (gad G 0 12)), some (.int x3)] [] (lp_X10_remembers_52 k86 n x3 μ4) := by
      intro k86 hk86 n
      induction n with
      | zero => intro x3 μ4; exact aw_none
      | succ n ih =>
        intro x3 μ4
        rw [lp_X10_remembers_52]
        refine aw_iload_n (pc := 52) (i := 1) hC dX10_remembers_52 rfl rfl ?_
        refine aw_sipush (pc := 53) (v := 304) hC dX10_remembers_53 sc304 ?_
        refine aw_icmp_ge (pc := 56) (tgt := 86) hC dX10_remembers_56 (by decide) (fun _ => ?_) (fun _ => ?_)
        · skip
          exact aw_drop [1] (hk86 μ4)
        · skip
          refine aw_aload_n (pc := 59) (i := 0) hC dX10_remembers_59 rfl rfl ?_
          refine aw_get (pc := 60) hC inX10 (v0 (j := 12) (by decide)) rfl rfl 5 (by decide) kw1319 rfl rfl dX10_remembers_60 ?_
          refine aw_sipush (pc := 63) (v := 304) hC dX10_remembers_63 sc304 ?_
          refine aw_aload_n (pc := 66) (i := 0) hC dX10_remembers_66 rfl rfl ?_
          refine aw_get (pc := 67) hC inX10 (v0 (j := 12) (by decide)) rfl rfl 6 (by decide) kw1320 rfl rfl dX10_remembers_67 ?_
          refine aw_imul (pc := 70) hC dX10_remembers_70 ?_
          refine aw_iload_n (pc := 71) (i := 1) hC dX10_remembers_71 rfl rfl ?_
          refine aw_iadd (pc := 72) hC dX10_remembers_72 ?_
          refine aw_aload_n (pc := 73) (i := 0) hC dX10_remembers_73 rfl rfl ?_
          refine aw_get (pc := 74) hC inX10 (v0 (j := 12) (by decide)) rfl rfl 1 (by decide) kw1315 rfl rfl dX10_remembers_74 ?_
          refine aw_iload_n (pc := 77) (i := 1) hC dX10_remembers_77 rfl rfl ?_
          refine aw_iaload (pc := 78) hC (v0 (j := 13) (by decide)) rfl dX10_remembers_78 ?_
          refine aw_iastoreN (pc := 79) hC (v0 (j := 16) (by decide)) (fun _ => rfl) dX10_remembers_79 (fun μ5 => ?_)
          refine aw_iinc (pc := 80) (v := x3 + 1) hC dX10_remembers_80 rfl (congrArg (HAdd.hAdd _) ic1) rfl (by decide) ?_
          refine aw_goto (pc := 83) (tgt := 52) hC dX10_remembers_83 (by decide) ?_
          exact ih (x3 + 1) μ5
    refine hL52 (fun (μ2 : Mem) => nm (upm μ2 0 12 6 ((μ2 0 12 6) + 1)) fun (μ6 : Mem) => some μ6) (fun μ2 => ?_) 4096 0 μ1
    · skip
      refine aw_aload_n (pc := 86) (i := 0) hC dX10_remembers_86 rfl rfl ?_
      refine aw_dup (pc := 87) hC dX10_remembers_87 rfl ?_
      refine aw_get (pc := 88) hC inX10 (v0 (j := 12) (by decide)) rfl rfl 6 (by decide) kw1320 rfl rfl dX10_remembers_88 ?_
      refine aw_iconst (pc := 91) (v := 1) hC dX10_remembers_91 ic1 ?_
      refine aw_iadd (pc := 92) hC dX10_remembers_92 ?_
      refine aw_putIN (pc := 93) hC inX10 (v0 (j := 12) (by decide)) rfl rfl 6 (by decide) kw1320 rfl tyX10 tyX10_ok nmX10 rfl rfl (Nat.le_of_ble_eq_true rfl) rfl dX10_remembers_93 (fun μ6 => ?_)
      exact aw_vret hC dX10_remembers_96
  · skip
    refine aw_icmp_ne (pc := 6) (tgt := 50) hC dX10_remembers_6 (by decide) (fun _ => ?_) (fun _ => ?_)
    · skip
      refine aw_iconst (pc := 9) (v := 0) hC dX10_remembers_9 ic0 ?_
      refine aw_istore_n (pc := 10) (i := 1) hC dX10_remembers_10 rfl rfl (by decide) ?_
      have hL11 : ∀ (k40 : Mem → Option (Mem)) (hk40 : ∀ (μ7 : Mem), AW G C (qV G C 0 0) 0 0 2 μ7 40 [some (.ref (gad G 0 12)), none] [] (k40 μ7)) (n : Nat) (x8 : Int32) (μ9 : Mem), AW G C (qV G C 0 0) 0 0 2 μ9 11 [some (.ref (gad G 0 12)), some (.int x8)] [] (lp_X10_remembers_11 k40 n x8 μ9) := by
        intro k40 hk40 n
        induction n with
        | zero => intro x8 μ9; exact aw_none
        | succ n ih =>
          intro x8 μ9
          rw [lp_X10_remembers_11]
          refine aw_iload_n (pc := 11) (i := 1) hC dX10_remembers_11 rfl rfl ?_
          refine aw_sipush (pc := 12) (v := 3344) hC dX10_remembers_12 sc3344 ?_
          refine aw_icmp_ge (pc := 15) (tgt := 40) hC dX10_remembers_15 (by decide) (fun _ => ?_) (fun _ => ?_)
          · skip
            exact aw_drop [1] (hk40 μ9)
          · skip
            refine aw_aload_n (pc := 18) (i := 0) hC dX10_remembers_18 rfl rfl ?_
            refine aw_get (pc := 19) hC inX10 (v0 (j := 12) (by decide)) rfl rfl 5 (by decide) kw1319 rfl rfl dX10_remembers_19 ?_
            refine aw_iload_n (pc := 22) (i := 1) hC dX10_remembers_22 rfl rfl ?_
            refine aw_aload_n (pc := 23) (i := 0) hC dX10_remembers_23 rfl rfl ?_
            refine aw_get (pc := 24) hC inX10 (v0 (j := 12) (by decide)) rfl rfl 5 (by decide) kw1319 rfl rfl dX10_remembers_24 ?_
            refine aw_iload_n (pc := 27) (i := 1) hC dX10_remembers_27 rfl rfl ?_
            refine aw_sipush (pc := 28) (v := 304) hC dX10_remembers_28 sc304 ?_
            refine aw_iadd (pc := 31) hC dX10_remembers_31 ?_
            refine aw_iaload (pc := 32) hC (v0 (j := 16) (by decide)) rfl dX10_remembers_32 ?_
            refine aw_iastoreN (pc := 33) hC (v0 (j := 16) (by decide)) (fun _ => rfl) dX10_remembers_33 (fun μ10 => ?_)
            refine aw_iinc (pc := 34) (v := x8 + 1) hC dX10_remembers_34 rfl (congrArg (HAdd.hAdd _) ic1) rfl (by decide) ?_
            refine aw_goto (pc := 37) (tgt := 11) hC dX10_remembers_37 (by decide) ?_
            exact ih (x8 + 1) μ10
      refine hL11 (fun (μ7 : Mem) => nm (upm μ7 0 12 6 ((μ7 0 12 6) - 1)) fun (μ11 : Mem) => J50 μ11) (fun μ7 => ?_) 4096 0 μ
      · skip
        refine aw_aload_n (pc := 40) (i := 0) hC dX10_remembers_40 rfl rfl ?_
        refine aw_dup (pc := 41) hC dX10_remembers_41 rfl ?_
        refine aw_get (pc := 42) hC inX10 (v0 (j := 12) (by decide)) rfl rfl 6 (by decide) kw1320 rfl rfl dX10_remembers_42 ?_
        refine aw_iconst (pc := 45) (v := 1) hC dX10_remembers_45 ic1 ?_
        refine aw_isub (pc := 46) hC dX10_remembers_46 ?_
        refine aw_putIN (pc := 47) hC inX10 (v0 (j := 12) (by decide)) rfl rfl 6 (by decide) kw1320 rfl tyX10 tyX10_ok nmX10 rfl rfl (Nat.le_of_ble_eq_true rfl) rfl dX10_remembers_47 (fun μ11 => ?_)
        exact hJ50 μ11
    · skip
      exact hJ50 μ
theorem dX10_sets_0 : decode cX10_sets 0 = .ok (.aload_n 0, 1) := by decide +kernel
theorem dX10_sets_1 : decode cX10_sets 1 = .ok (.invokevirtual 282, 3) := by decide +kernel
theorem dX10_sets_4 : decode cX10_sets 4 = .ok (.aload_n 0, 1) := by decide +kernel
theorem dX10_sets_5 : decode cX10_sets 5 = .ok (.getfield 7, 3) := by decide +kernel
theorem dX10_sets_8 : decode cX10_sets 8 = .ok (.iload_n 1, 1) := by decide +kernel
theorem dX10_sets_9 : decode cX10_sets 9 = .ok (.iaload, 1) := by decide +kernel
theorem dX10_sets_10 : decode cX10_sets 10 = .ok (.istore_n 3, 1) := by decide +kernel
theorem dX10_sets_11 : decode cX10_sets 11 = .ok (.aload_n 0, 1) := by decide +kernel
theorem dX10_sets_12 : decode cX10_sets 12 = .ok (.getfield 7, 3) := by decide +kernel
theorem dX10_sets_15 : decode cX10_sets 15 = .ok (.iload_n 1, 1) := by decide +kernel
theorem dX10_sets_16 : decode cX10_sets 16 = .ok (.iload_n 2, 1) := by decide +kernel
theorem dX10_sets_17 : decode cX10_sets 17 = .ok (.iastore, 1) := by decide +kernel
theorem dX10_sets_18 : decode cX10_sets 18 = .ok (.iload_n 3, 1) := by decide +kernel
theorem dX10_sets_19 : decode cX10_sets 19 = .ok (.ireturn, 1) := by decide +kernel
def f_X10_sets (μ : Mem) (a1 : Int32) (a2 : Int32) : Option (Int32 × Mem) := (f_X10_remembers μ).bind fun (q1 : Mem) => ix a1 704 (ix a1 704 (nm (upm q1 0 13 a1.toNatClampNeg a2) fun (μ2 : Mem) => some ((q1 0 13 a1.toNatClampNeg), μ2)))
set_option maxHeartbeats 4000000 in
set_option maxRecDepth 100000 in
theorem c_X10_sets (G : GG) (l : Launch) (μ : Mem) (a1 : Int32) (a2 : Int32) : CI G l yX10_sets (.code yX10_sets cX10_sets 4 (some .int)) 2 [.ref (gad G 0 12), .int a1, .int a2] μ (f_X10_sets μ a1 a2) := by
  refine CI.of (own := "SaturdayKeepModel") (L0 := [some (.ref (gad G 0 12)), some (.int a1), some (.int a2), none]) rfl rfl rfl (Nat.le_of_ble_eq_true rfl) (fun C hl hC => ?_)
  subst hl
  delta f_X10_sets
  refine aw_aload_n (pc := 0) (i := 0) hC dX10_sets_0 rfl rfl ?_
  refine aw_callVV (pc := 1) (As := []) hC mb_X10_remembers kw1616 (by decide) (c_X10_remembers G C.2.1   μ ) (v0 (j := 12) (by decide)) rfl rfl rfl (Nat.le_of_ble_eq_true rfl) dX10_sets_1 (fun q1 => ?_)
  refine aw_aload_n (pc := 4) (i := 0) hC dX10_sets_4 rfl rfl ?_
  refine aw_get (pc := 5) hC inX10 (v0 (j := 12) (by decide)) rfl rfl 1 (by decide) kw1315 rfl rfl dX10_sets_5 ?_
  refine aw_iload_n (pc := 8) (i := 1) hC dX10_sets_8 rfl rfl ?_
  refine aw_iaload (pc := 9) hC (v0 (j := 13) (by decide)) rfl dX10_sets_9 ?_
  refine aw_istore_n (pc := 10) (i := 3) hC dX10_sets_10 rfl rfl (by decide) ?_
  refine aw_aload_n (pc := 11) (i := 0) hC dX10_sets_11 rfl rfl ?_
  refine aw_get (pc := 12) hC inX10 (v0 (j := 12) (by decide)) rfl rfl 1 (by decide) kw1315 rfl rfl dX10_sets_12 ?_
  refine aw_iload_n (pc := 15) (i := 1) hC dX10_sets_15 rfl rfl ?_
  refine aw_iload_n (pc := 16) (i := 2) hC dX10_sets_16 rfl rfl ?_
  refine aw_iastoreN (pc := 17) hC (v0 (j := 13) (by decide)) (fun _ => rfl) dX10_sets_17 (fun μ2 => ?_)
  refine aw_iload_n (pc := 18) (i := 3) hC dX10_sets_18 rfl rfl ?_
  exact aw_iret hC dX10_sets_19
theorem dX10_go_0 : decode cX10_go 0 = .ok (.aload_n 0, 1) := by decide +kernel
theorem dX10_go_1 : decode cX10_go 1 = .ok (.aload_n 0, 1) := by decide +kernel
theorem dX10_go_2 : decode cX10_go 2 = .ok (.iload_n 1, 1) := by decide +kernel
theorem dX10_go_3 : decode cX10_go 3 = .ok (.invokevirtual 267, 3) := by decide +kernel
theorem dX10_go_6 : decode cX10_go 6 = .ok (.ifCond .eq 10, 3) := by decide +kernel
theorem dX10_go_9 : decode cX10_go 9 = .ok (.iload_n 2, 1) := by decide +kernel
theorem dX10_go_10 : decode cX10_go 10 = .ok (.invokestatic 273, 3) := by decide +kernel
theorem dX10_go_13 : decode cX10_go 13 = .ok (.ifCond .ne 7, 3) := by decide +kernel
theorem dX10_go_16 : decode cX10_go 16 = .ok (.iconst 1, 1) := by decide +kernel
theorem dX10_go_17 : decode cX10_go 17 = .ok (.goto 4, 3) := by decide +kernel
theorem dX10_go_20 : decode cX10_go 20 = .ok (.iconst 0, 1) := by decide +kernel
theorem dX10_go_21 : decode cX10_go 21 = .ok (.putfield 42, 3) := by decide +kernel
theorem dX10_go_24 : decode cX10_go 24 = .ok (.aload_n 0, 1) := by decide +kernel
theorem dX10_go_25 : decode cX10_go 25 = .ok (.getfield 42, 3) := by decide +kernel
theorem dX10_go_28 : decode cX10_go 28 = .ok (.ifCond .le 7, 3) := by decide +kernel
theorem dX10_go_31 : decode cX10_go 31 = .ok (.iconst 0, 1) := by decide +kernel
theorem dX10_go_32 : decode cX10_go 32 = .ok (.goto 16, 3) := by decide +kernel
theorem dX10_go_35 : decode cX10_go 35 = .ok (.aload_n 0, 1) := by decide +kernel
theorem dX10_go_36 : decode cX10_go 36 = .ok (.bipush 24, 2) := by decide +kernel
theorem dX10_go_38 : decode cX10_go 38 = .ok (.iconst 5, 1) := by decide +kernel
theorem dX10_go_39 : decode cX10_go 39 = .ok (.iload_n 1, 1) := by decide +kernel
theorem dX10_go_40 : decode cX10_go 40 = .ok (.imul, 1) := by decide +kernel
theorem dX10_go_41 : decode cX10_go 41 = .ok (.iadd, 1) := by decide +kernel
theorem dX10_go_42 : decode cX10_go 42 = .ok (.iconst 0, 1) := by decide +kernel
theorem dX10_go_43 : decode cX10_go 43 = .ok (.iadd, 1) := by decide +kernel
theorem dX10_go_44 : decode cX10_go 44 = .ok (.iload_n 2, 1) := by decide +kernel
theorem dX10_go_45 : decode cX10_go 45 = .ok (.invokevirtual 285, 3) := by decide +kernel
theorem dX10_go_48 : decode cX10_go 48 = .ok (.ireturn, 1) := by decide +kernel
def f_X10_go (μ : Mem) (a1 : Int32) (a2 : Int32) : Option (Int32 × Mem) := (f_X10_isGuest μ a1).bind fun (q1 : Int32) => nm (fun (x2 : Int32) => nm (upm μ 0 12 0 x2) fun (μ3 : Mem) => if (μ3 0 12 0) ≤ 0 then ((f_X10_sets μ3 ((24 + (5 * a1)) + 0) a2).bind fun (q4 : Int32 × Mem) => some (q4.1, q4.2)) else (some (0, μ3))) fun (J21 : Int32 → Option (Int32 × Mem)) => nm (J21 1) fun (J16 : Option (Int32 × Mem)) => if q1 = 0 then (J16) else ((f_X10_isRoom a2).bind fun (q5 : Int32) => if q5 = 0 then (J16) else (J21 0))
set_option maxHeartbeats 4000000 in
set_option maxRecDepth 100000 in
theorem c_X10_go (G : GG) (l : Launch) (μ : Mem) (a1 : Int32) (a2 : Int32) : CI G l yX10_go (.code yX10_go cX10_go 3 (some .int)) 3 [.ref (gad G 0 12), .int a1, .int a2] μ (f_X10_go μ a1 a2) := by
  refine CI.of (own := "SaturdayKeepModel") (L0 := [some (.ref (gad G 0 12)), some (.int a1), some (.int a2)]) rfl rfl rfl (Nat.le_of_ble_eq_true rfl) (fun C hl hC => ?_)
  subst hl
  delta f_X10_go
  refine aw_aload_n (pc := 0) (i := 0) hC dX10_go_0 rfl rfl ?_
  refine aw_aload_n (pc := 1) (i := 0) hC dX10_go_1 rfl rfl ?_
  refine aw_iload_n (pc := 2) (i := 1) hC dX10_go_2 rfl rfl ?_
  refine aw_callVR (pc := 3) (As := [.int a1]) hC mb_X10_isGuest kw1535 (by decide) (c_X10_isGuest G C.2.1   μ a1) (v0 (j := 12) (by decide)) rfl rfl rfl (Nat.le_of_ble_eq_true rfl) dX10_go_3 (fun q1 => ?_)
  refine aw_nmJ (fun (J21 : Int32 → Option (Int32 × Mem)) => ∀ (x2 : Int32), AW G C (qI G C 0 0) 0 0 3 μ 21 [some (.ref (gad G 0 12)), some (.int a1), some (.int a2)] [.int x2, .ref (gad G 0 12)] (J21 x2)) (fun x2 => ?_) (fun J21 hJ21 => ?_)
  · skip
    refine aw_putIN (pc := 21) hC inX10 (v0 (j := 12) (by decide)) rfl rfl 0 (by decide) kw1314 rfl tyX10 tyX10_ok nmX10 rfl rfl (Nat.le_of_ble_eq_true rfl) rfl dX10_go_21 (fun μ3 => ?_)
    refine aw_aload_n (pc := 24) (i := 0) hC dX10_go_24 rfl rfl ?_
    refine aw_get (pc := 25) hC inX10 (v0 (j := 12) (by decide)) rfl rfl 0 (by decide) kw1314 rfl rfl dX10_go_25 ?_
    refine aw_if_le (pc := 28) (tgt := 35) hC dX10_go_28 (by decide) (fun _ => ?_) (fun _ => ?_)
    · skip
      refine aw_aload_n (pc := 35) (i := 0) hC dX10_go_35 rfl rfl ?_
      refine aw_bipush (pc := 36) (v := 24) hC dX10_go_36 bc24 ?_
      refine aw_iconst (pc := 38) (v := 5) hC dX10_go_38 ic5 ?_
      refine aw_iload_n (pc := 39) (i := 1) hC dX10_go_39 rfl rfl ?_
      refine aw_imul (pc := 40) hC dX10_go_40 ?_
      refine aw_iadd (pc := 41) hC dX10_go_41 ?_
      refine aw_iconst (pc := 42) (v := 0) hC dX10_go_42 ic0 ?_
      refine aw_iadd (pc := 43) hC dX10_go_43 ?_
      refine aw_iload_n (pc := 44) (i := 2) hC dX10_go_44 rfl rfl ?_
      refine aw_callVI (pc := 45) (As := [.int ((24 + (5 * a1)) + 0), .int a2]) hC mb_X10_sets kw1612 (by decide) (c_X10_sets G C.2.1   μ3 ((24 + (5 * a1)) + 0) a2) (v0 (j := 12) (by decide)) rfl rfl rfl (Nat.le_of_ble_eq_true rfl) dX10_go_45 (fun q4 => ?_)
      exact aw_iret hC dX10_go_48
    · skip
      refine aw_iconst (pc := 31) (v := 0) hC dX10_go_31 ic0 ?_
      refine aw_goto (pc := 32) (tgt := 48) hC dX10_go_32 (by decide) ?_
      exact aw_iret hC dX10_go_48
  · skip
    refine aw_nmJ (fun (J16 : Option (Int32 × Mem)) => AW G C (qI G C 0 0) 0 0 3 μ 16 [some (.ref (gad G 0 12)), some (.int a1), some (.int a2)] [.ref (gad G 0 12)] (J16)) ?_ (fun J16 hJ16 => ?_)
    · skip
      refine aw_iconst (pc := 16) (v := 1) hC dX10_go_16 ic1 ?_
      refine aw_goto (pc := 17) (tgt := 21) hC dX10_go_17 (by decide) ?_
      exact hJ21 1
    · skip
      refine aw_if_eq (pc := 6) (tgt := 16) hC dX10_go_6 (by decide) (fun _ => ?_) (fun _ => ?_)
      · skip
        exact hJ16
      · skip
        refine aw_iload_n (pc := 9) (i := 2) hC dX10_go_9 rfl rfl ?_
        refine aw_callSR (pc := 10) (As := [.int a2]) hC ms_X10_isRoom kw1585 (by decide) (c_X10_isRoom G C.2.1   μ a2) rfl (Nat.le_of_ble_eq_true rfl) dX10_go_10 (fun q5 => ?_)
        refine aw_if_ne (pc := 13) (tgt := 20) hC dX10_go_13 (by decide) (fun _ => ?_) (fun _ => ?_)
        · skip
          exact hJ16
        · skip
          refine aw_iconst (pc := 20) (v := 0) hC dX10_go_20 ic0 ?_
          exact hJ21 0
theorem dX10_come_0 : decode cX10_come 0 = .ok (.aload_n 0, 1) := by decide +kernel
theorem dX10_come_1 : decode cX10_come 1 = .ok (.aload_n 0, 1) := by decide +kernel
theorem dX10_come_2 : decode cX10_come 2 = .ok (.iload_n 1, 1) := by decide +kernel
theorem dX10_come_3 : decode cX10_come 3 = .ok (.invokevirtual 267, 3) := by decide +kernel
theorem dX10_come_6 : decode cX10_come 6 = .ok (.ifCond .ne 7, 3) := by decide +kernel
theorem dX10_come_9 : decode cX10_come 9 = .ok (.iconst 1, 1) := by decide +kernel
theorem dX10_come_10 : decode cX10_come 10 = .ok (.goto 4, 3) := by decide +kernel
theorem dX10_come_13 : decode cX10_come 13 = .ok (.iconst 0, 1) := by decide +kernel
theorem dX10_come_14 : decode cX10_come 14 = .ok (.putfield 42, 3) := by decide +kernel
theorem dX10_come_17 : decode cX10_come 17 = .ok (.aload_n 0, 1) := by decide +kernel
theorem dX10_come_18 : decode cX10_come 18 = .ok (.getfield 42, 3) := by decide +kernel
theorem dX10_come_21 : decode cX10_come 21 = .ok (.ifCond .ne 40, 3) := by decide +kernel
theorem dX10_come_24 : decode cX10_come 24 = .ok (.aload_n 0, 1) := by decide +kernel
theorem dX10_come_25 : decode cX10_come 25 = .ok (.bipush 24, 2) := by decide +kernel
theorem dX10_come_27 : decode cX10_come 27 = .ok (.iconst 5, 1) := by decide +kernel
theorem dX10_come_28 : decode cX10_come 28 = .ok (.iload_n 1, 1) := by decide +kernel
theorem dX10_come_29 : decode cX10_come 29 = .ok (.imul, 1) := by decide +kernel
theorem dX10_come_30 : decode cX10_come 30 = .ok (.iadd, 1) := by decide +kernel
theorem dX10_come_31 : decode cX10_come 31 = .ok (.iconst 4, 1) := by decide +kernel
theorem dX10_come_32 : decode cX10_come 32 = .ok (.iadd, 1) := by decide +kernel
theorem dX10_come_33 : decode cX10_come 33 = .ok (.iload_n 2, 1) := by decide +kernel
theorem dX10_come_34 : decode cX10_come 34 = .ok (.ifCond .eq 7, 3) := by decide +kernel
theorem dX10_come_37 : decode cX10_come 37 = .ok (.iconst 1, 1) := by decide +kernel
theorem dX10_come_38 : decode cX10_come 38 = .ok (.goto 4, 3) := by decide +kernel
theorem dX10_come_41 : decode cX10_come 41 = .ok (.iconst 0, 1) := by decide +kernel
theorem dX10_come_42 : decode cX10_come 42 = .ok (.invokevirtual 285, 3) := by decide +kernel
theorem dX10_come_45 : decode cX10_come 45 = .ok (.iload_n 2, 1) := by decide +kernel
theorem dX10_come_46 : decode cX10_come 46 = .ok (.ifCond .eq 7, 3) := by decide +kernel
theorem dX10_come_49 : decode cX10_come 49 = .ok (.iconst 1, 1) := by decide +kernel
theorem dX10_come_50 : decode cX10_come 50 = .ok (.goto 4, 3) := by decide +kernel
theorem dX10_come_53 : decode cX10_come 53 = .ok (.iconst 0, 1) := by decide +kernel
theorem dX10_come_54 : decode cX10_come 54 = .ok (.if_icmp .eq 7, 3) := by decide +kernel
theorem dX10_come_57 : decode cX10_come 57 = .ok (.iconst 1, 1) := by decide +kernel
theorem dX10_come_58 : decode cX10_come 58 = .ok (.goto 4, 3) := by decide +kernel
theorem dX10_come_61 : decode cX10_come 61 = .ok (.iconst 0, 1) := by decide +kernel
theorem dX10_come_62 : decode cX10_come 62 = .ok (.ireturn, 1) := by decide +kernel
def f_X10_come (μ : Mem) (a1 : Int32) (a2 : Int32) : Option (Int32 × Mem) := (f_X10_isGuest μ a1).bind fun (q1 : Int32) => nm (fun (x2 : Int32) => nm (upm μ 0 12 0 x2) fun (μ3 : Mem) => if (μ3 0 12 0) = 0 then (nm (fun (x4 : Int32) => (f_X10_sets μ3 ((24 + (5 * a1)) + 4) x4).bind fun (q5 : Int32 × Mem) => nm (fun (x6 : Int32) => if q5.1 = x6 then (some (0, q5.2)) else (some (1, q5.2))) fun (J54 : Int32 → Option (Int32 × Mem)) => if a2 = 0 then (J54 0) else (J54 1)) fun (J42 : Int32 → Option (Int32 × Mem)) => if a2 = 0 then (J42 0) else (J42 1)) else (some (0, μ3))) fun (J14 : Int32 → Option (Int32 × Mem)) => if q1 = 0 then (J14 1) else (J14 0)
set_option maxHeartbeats 4000000 in
set_option maxRecDepth 100000 in
theorem c_X10_come (G : GG) (l : Launch) (μ : Mem) (a1 : Int32) (a2 : Int32) : CI G l yX10_come (.code yX10_come cX10_come 3 (some .boolean)) 3 [.ref (gad G 0 12), .int a1, .int a2] μ (f_X10_come μ a1 a2) := by
  refine CI.of (own := "SaturdayKeepModel") (L0 := [some (.ref (gad G 0 12)), some (.int a1), some (.int a2)]) rfl rfl rfl (Nat.le_of_ble_eq_true rfl) (fun C hl hC => ?_)
  subst hl
  delta f_X10_come
  refine aw_aload_n (pc := 0) (i := 0) hC dX10_come_0 rfl rfl ?_
  refine aw_aload_n (pc := 1) (i := 0) hC dX10_come_1 rfl rfl ?_
  refine aw_iload_n (pc := 2) (i := 1) hC dX10_come_2 rfl rfl ?_
  refine aw_callVR (pc := 3) (As := [.int a1]) hC mb_X10_isGuest kw1535 (by decide) (c_X10_isGuest G C.2.1   μ a1) (v0 (j := 12) (by decide)) rfl rfl rfl (Nat.le_of_ble_eq_true rfl) dX10_come_3 (fun q1 => ?_)
  refine aw_nmJ (fun (J14 : Int32 → Option (Int32 × Mem)) => ∀ (x2 : Int32), AW G C (qI G C 0 0) 0 0 3 μ 14 [some (.ref (gad G 0 12)), some (.int a1), some (.int a2)] [.int x2, .ref (gad G 0 12)] (J14 x2)) (fun x2 => ?_) (fun J14 hJ14 => ?_)
  · skip
    refine aw_putIN (pc := 14) hC inX10 (v0 (j := 12) (by decide)) rfl rfl 0 (by decide) kw1314 rfl tyX10 tyX10_ok nmX10 rfl rfl (Nat.le_of_ble_eq_true rfl) rfl dX10_come_14 (fun μ3 => ?_)
    refine aw_aload_n (pc := 17) (i := 0) hC dX10_come_17 rfl rfl ?_
    refine aw_get (pc := 18) hC inX10 (v0 (j := 12) (by decide)) rfl rfl 0 (by decide) kw1314 rfl rfl dX10_come_18 ?_
    refine aw_if_ne (pc := 21) (tgt := 61) hC dX10_come_21 (by decide) (fun _ => ?_) (fun _ => ?_)
    · skip
      refine aw_aload_n (pc := 24) (i := 0) hC dX10_come_24 rfl rfl ?_
      refine aw_bipush (pc := 25) (v := 24) hC dX10_come_25 bc24 ?_
      refine aw_iconst (pc := 27) (v := 5) hC dX10_come_27 ic5 ?_
      refine aw_iload_n (pc := 28) (i := 1) hC dX10_come_28 rfl rfl ?_
      refine aw_imul (pc := 29) hC dX10_come_29 ?_
      refine aw_iadd (pc := 30) hC dX10_come_30 ?_
      refine aw_iconst (pc := 31) (v := 4) hC dX10_come_31 ic4 ?_
      refine aw_iadd (pc := 32) hC dX10_come_32 ?_
      refine aw_iload_n (pc := 33) (i := 2) hC dX10_come_33 rfl rfl ?_
      refine aw_nmJ (fun (J42 : Int32 → Option (Int32 × Mem)) => ∀ (x4 : Int32), AW G C (qI G C 0 0) 0 0 3 μ3 42 [none, none, some (.int a2)] [.int x4, .int ((24 + (5 * a1)) + 4), .ref (gad G 0 12)] (J42 x4)) (fun x4 => ?_) (fun J42 hJ42 => ?_)
      · skip
        refine aw_callVI (pc := 42) (As := [.int ((24 + (5 * a1)) + 4), .int x4]) hC mb_X10_sets kw1612 (by decide) (c_X10_sets G C.2.1   μ3 ((24 + (5 * a1)) + 4) x4) (v0 (j := 12) (by decide)) rfl rfl rfl (Nat.le_of_ble_eq_true rfl) dX10_come_42 (fun q5 => ?_)
        refine aw_iload_n (pc := 45) (i := 2) hC dX10_come_45 rfl rfl ?_
        refine aw_nmJ (fun (J54 : Int32 → Option (Int32 × Mem)) => ∀ (x6 : Int32), AW G C (qI G C 0 0) 0 0 3 q5.2 54 [none, none, none] [.int x6, .int q5.1] (J54 x6)) (fun x6 => ?_) (fun J54 hJ54 => ?_)
        · skip
          refine aw_icmp_eq (pc := 54) (tgt := 61) hC dX10_come_54 (by decide) (fun _ => ?_) (fun _ => ?_)
          · skip
            refine aw_iconst (pc := 61) (v := 0) hC dX10_come_61 ic0 ?_
            exact aw_zret0 hC dX10_come_62
          · skip
            refine aw_iconst (pc := 57) (v := 1) hC dX10_come_57 ic1 ?_
            refine aw_goto (pc := 58) (tgt := 62) hC dX10_come_58 (by decide) ?_
            exact aw_zret1 hC dX10_come_62
        · skip
          refine aw_if_eq (pc := 46) (tgt := 53) hC dX10_come_46 (by decide) (fun _ => ?_) (fun _ => ?_)
          · skip
            refine aw_iconst (pc := 53) (v := 0) hC dX10_come_53 ic0 ?_
            exact aw_drop [2] (hJ54 0)
          · skip
            refine aw_iconst (pc := 49) (v := 1) hC dX10_come_49 ic1 ?_
            refine aw_goto (pc := 50) (tgt := 54) hC dX10_come_50 (by decide) ?_
            exact aw_drop [2] (hJ54 1)
      · skip
        refine aw_if_eq (pc := 34) (tgt := 41) hC dX10_come_34 (by decide) (fun _ => ?_) (fun _ => ?_)
        · skip
          refine aw_iconst (pc := 41) (v := 0) hC dX10_come_41 ic0 ?_
          exact aw_drop [0, 1] (hJ42 0)
        · skip
          refine aw_iconst (pc := 37) (v := 1) hC dX10_come_37 ic1 ?_
          refine aw_goto (pc := 38) (tgt := 42) hC dX10_come_38 (by decide) ?_
          exact aw_drop [0, 1] (hJ42 1)
    · skip
      refine aw_iconst (pc := 61) (v := 0) hC dX10_come_61 ic0 ?_
      exact aw_zret0 hC dX10_come_62
  · skip
    refine aw_if_ne (pc := 6) (tgt := 13) hC dX10_come_6 (by decide) (fun _ => ?_) (fun _ => ?_)
    · skip
      refine aw_iconst (pc := 9) (v := 1) hC dX10_come_9 ic1 ?_
      refine aw_goto (pc := 10) (tgt := 14) hC dX10_come_10 (by decide) ?_
      exact hJ14 1
    · skip
      refine aw_iconst (pc := 13) (v := 0) hC dX10_come_13 ic0 ?_
      exact hJ14 0
theorem dX10_key_0 : decode cX10_key 0 = .ok (.aload_n 0, 1) := by decide +kernel
theorem dX10_key_1 : decode cX10_key 1 = .ok (.aload_n 0, 1) := by decide +kernel
theorem dX10_key_2 : decode cX10_key 2 = .ok (.iload_n 1, 1) := by decide +kernel
theorem dX10_key_3 : decode cX10_key 3 = .ok (.invokevirtual 267, 3) := by decide +kernel
theorem dX10_key_6 : decode cX10_key 6 = .ok (.ifCond .ne 7, 3) := by decide +kernel
theorem dX10_key_9 : decode cX10_key 9 = .ok (.iconst 1, 1) := by decide +kernel
theorem dX10_key_10 : decode cX10_key 10 = .ok (.goto 4, 3) := by decide +kernel
theorem dX10_key_13 : decode cX10_key 13 = .ok (.iconst 0, 1) := by decide +kernel
theorem dX10_key_14 : decode cX10_key 14 = .ok (.putfield 42, 3) := by decide +kernel
theorem dX10_key_17 : decode cX10_key 17 = .ok (.aload_n 0, 1) := by decide +kernel
theorem dX10_key_18 : decode cX10_key 18 = .ok (.getfield 42, 3) := by decide +kernel
theorem dX10_key_21 : decode cX10_key 21 = .ok (.ifCond .ne 40, 3) := by decide +kernel
theorem dX10_key_24 : decode cX10_key 24 = .ok (.aload_n 0, 1) := by decide +kernel
theorem dX10_key_25 : decode cX10_key 25 = .ok (.bipush 24, 2) := by decide +kernel
theorem dX10_key_27 : decode cX10_key 27 = .ok (.iconst 5, 1) := by decide +kernel
theorem dX10_key_28 : decode cX10_key 28 = .ok (.iload_n 1, 1) := by decide +kernel
theorem dX10_key_29 : decode cX10_key 29 = .ok (.imul, 1) := by decide +kernel
theorem dX10_key_30 : decode cX10_key 30 = .ok (.iadd, 1) := by decide +kernel
theorem dX10_key_31 : decode cX10_key 31 = .ok (.iconst 3, 1) := by decide +kernel
theorem dX10_key_32 : decode cX10_key 32 = .ok (.iadd, 1) := by decide +kernel
theorem dX10_key_33 : decode cX10_key 33 = .ok (.iload_n 2, 1) := by decide +kernel
theorem dX10_key_34 : decode cX10_key 34 = .ok (.ifCond .eq 7, 3) := by decide +kernel
theorem dX10_key_37 : decode cX10_key 37 = .ok (.iconst 1, 1) := by decide +kernel
theorem dX10_key_38 : decode cX10_key 38 = .ok (.goto 4, 3) := by decide +kernel
theorem dX10_key_41 : decode cX10_key 41 = .ok (.iconst 0, 1) := by decide +kernel
theorem dX10_key_42 : decode cX10_key 42 = .ok (.invokevirtual 285, 3) := by decide +kernel
theorem dX10_key_45 : decode cX10_key 45 = .ok (.iload_n 2, 1) := by decide +kernel
theorem dX10_key_46 : decode cX10_key 46 = .ok (.ifCond .eq 7, 3) := by decide +kernel
theorem dX10_key_49 : decode cX10_key 49 = .ok (.iconst 1, 1) := by decide +kernel
theorem dX10_key_50 : decode cX10_key 50 = .ok (.goto 4, 3) := by decide +kernel
theorem dX10_key_53 : decode cX10_key 53 = .ok (.iconst 0, 1) := by decide +kernel
theorem dX10_key_54 : decode cX10_key 54 = .ok (.if_icmp .eq 7, 3) := by decide +kernel
theorem dX10_key_57 : decode cX10_key 57 = .ok (.iconst 1, 1) := by decide +kernel
theorem dX10_key_58 : decode cX10_key 58 = .ok (.goto 4, 3) := by decide +kernel
theorem dX10_key_61 : decode cX10_key 61 = .ok (.iconst 0, 1) := by decide +kernel
theorem dX10_key_62 : decode cX10_key 62 = .ok (.ireturn, 1) := by decide +kernel
def f_X10_key (μ : Mem) (a1 : Int32) (a2 : Int32) : Option (Int32 × Mem) := (f_X10_isGuest μ a1).bind fun (q1 : Int32) => nm (fun (x2 : Int32) => nm (upm μ 0 12 0 x2) fun (μ3 : Mem) => if (μ3 0 12 0) = 0 then (nm (fun (x4 : Int32) => (f_X10_sets μ3 ((24 + (5 * a1)) + 3) x4).bind fun (q5 : Int32 × Mem) => nm (fun (x6 : Int32) => if q5.1 = x6 then (some (0, q5.2)) else (some (1, q5.2))) fun (J54 : Int32 → Option (Int32 × Mem)) => if a2 = 0 then (J54 0) else (J54 1)) fun (J42 : Int32 → Option (Int32 × Mem)) => if a2 = 0 then (J42 0) else (J42 1)) else (some (0, μ3))) fun (J14 : Int32 → Option (Int32 × Mem)) => if q1 = 0 then (J14 1) else (J14 0)
set_option maxHeartbeats 4000000 in
set_option maxRecDepth 100000 in
theorem c_X10_key (G : GG) (l : Launch) (μ : Mem) (a1 : Int32) (a2 : Int32) : CI G l yX10_key (.code yX10_key cX10_key 3 (some .boolean)) 3 [.ref (gad G 0 12), .int a1, .int a2] μ (f_X10_key μ a1 a2) := by
  refine CI.of (own := "SaturdayKeepModel") (L0 := [some (.ref (gad G 0 12)), some (.int a1), some (.int a2)]) rfl rfl rfl (Nat.le_of_ble_eq_true rfl) (fun C hl hC => ?_)
  subst hl
  delta f_X10_key
  refine aw_aload_n (pc := 0) (i := 0) hC dX10_key_0 rfl rfl ?_
  refine aw_aload_n (pc := 1) (i := 0) hC dX10_key_1 rfl rfl ?_
  refine aw_iload_n (pc := 2) (i := 1) hC dX10_key_2 rfl rfl ?_
  refine aw_callVR (pc := 3) (As := [.int a1]) hC mb_X10_isGuest kw1535 (by decide) (c_X10_isGuest G C.2.1   μ a1) (v0 (j := 12) (by decide)) rfl rfl rfl (Nat.le_of_ble_eq_true rfl) dX10_key_3 (fun q1 => ?_)
  refine aw_nmJ (fun (J14 : Int32 → Option (Int32 × Mem)) => ∀ (x2 : Int32), AW G C (qI G C 0 0) 0 0 3 μ 14 [some (.ref (gad G 0 12)), some (.int a1), some (.int a2)] [.int x2, .ref (gad G 0 12)] (J14 x2)) (fun x2 => ?_) (fun J14 hJ14 => ?_)
  · skip
    refine aw_putIN (pc := 14) hC inX10 (v0 (j := 12) (by decide)) rfl rfl 0 (by decide) kw1314 rfl tyX10 tyX10_ok nmX10 rfl rfl (Nat.le_of_ble_eq_true rfl) rfl dX10_key_14 (fun μ3 => ?_)
    refine aw_aload_n (pc := 17) (i := 0) hC dX10_key_17 rfl rfl ?_
    refine aw_get (pc := 18) hC inX10 (v0 (j := 12) (by decide)) rfl rfl 0 (by decide) kw1314 rfl rfl dX10_key_18 ?_
    refine aw_if_ne (pc := 21) (tgt := 61) hC dX10_key_21 (by decide) (fun _ => ?_) (fun _ => ?_)
    · skip
      refine aw_aload_n (pc := 24) (i := 0) hC dX10_key_24 rfl rfl ?_
      refine aw_bipush (pc := 25) (v := 24) hC dX10_key_25 bc24 ?_
      refine aw_iconst (pc := 27) (v := 5) hC dX10_key_27 ic5 ?_
      refine aw_iload_n (pc := 28) (i := 1) hC dX10_key_28 rfl rfl ?_
      refine aw_imul (pc := 29) hC dX10_key_29 ?_
      refine aw_iadd (pc := 30) hC dX10_key_30 ?_
      refine aw_iconst (pc := 31) (v := 3) hC dX10_key_31 ic3 ?_
      refine aw_iadd (pc := 32) hC dX10_key_32 ?_
      refine aw_iload_n (pc := 33) (i := 2) hC dX10_key_33 rfl rfl ?_
      refine aw_nmJ (fun (J42 : Int32 → Option (Int32 × Mem)) => ∀ (x4 : Int32), AW G C (qI G C 0 0) 0 0 3 μ3 42 [none, none, some (.int a2)] [.int x4, .int ((24 + (5 * a1)) + 3), .ref (gad G 0 12)] (J42 x4)) (fun x4 => ?_) (fun J42 hJ42 => ?_)
      · skip
        refine aw_callVI (pc := 42) (As := [.int ((24 + (5 * a1)) + 3), .int x4]) hC mb_X10_sets kw1612 (by decide) (c_X10_sets G C.2.1   μ3 ((24 + (5 * a1)) + 3) x4) (v0 (j := 12) (by decide)) rfl rfl rfl (Nat.le_of_ble_eq_true rfl) dX10_key_42 (fun q5 => ?_)
        refine aw_iload_n (pc := 45) (i := 2) hC dX10_key_45 rfl rfl ?_
        refine aw_nmJ (fun (J54 : Int32 → Option (Int32 × Mem)) => ∀ (x6 : Int32), AW G C (qI G C 0 0) 0 0 3 q5.2 54 [none, none, none] [.int x6, .int q5.1] (J54 x6)) (fun x6 => ?_) (fun J54 hJ54 => ?_)
        · skip
          refine aw_icmp_eq (pc := 54) (tgt := 61) hC dX10_key_54 (by decide) (fun _ => ?_) (fun _ => ?_)
          · skip
            refine aw_iconst (pc := 61) (v := 0) hC dX10_key_61 ic0 ?_
            exact aw_zret0 hC dX10_key_62
          · skip
            refine aw_iconst (pc := 57) (v := 1) hC dX10_key_57 ic1 ?_
            refine aw_goto (pc := 58) (tgt := 62) hC dX10_key_58 (by decide) ?_
            exact aw_zret1 hC dX10_key_62
        · skip
          refine aw_if_eq (pc := 46) (tgt := 53) hC dX10_key_46 (by decide) (fun _ => ?_) (fun _ => ?_)
          · skip
            refine aw_iconst (pc := 53) (v := 0) hC dX10_key_53 ic0 ?_
            exact aw_drop [2] (hJ54 0)
          · skip
            refine aw_iconst (pc := 49) (v := 1) hC dX10_key_49 ic1 ?_
            refine aw_goto (pc := 50) (tgt := 54) hC dX10_key_50 (by decide) ?_
            exact aw_drop [2] (hJ54 1)
      · skip
        refine aw_if_eq (pc := 34) (tgt := 41) hC dX10_key_34 (by decide) (fun _ => ?_) (fun _ => ?_)
        · skip
          refine aw_iconst (pc := 41) (v := 0) hC dX10_key_41 ic0 ?_
          exact aw_drop [0, 1] (hJ42 0)
        · skip
          refine aw_iconst (pc := 37) (v := 1) hC dX10_key_37 ic1 ?_
          refine aw_goto (pc := 38) (tgt := 42) hC dX10_key_38 (by decide) ?_
          exact aw_drop [0, 1] (hJ42 1)
    · skip
      refine aw_iconst (pc := 61) (v := 0) hC dX10_key_61 ic0 ?_
      exact aw_zret0 hC dX10_key_62
  · skip
    refine aw_if_ne (pc := 6) (tgt := 13) hC dX10_key_6 (by decide) (fun _ => ?_) (fun _ => ?_)
    · skip
      refine aw_iconst (pc := 9) (v := 1) hC dX10_key_9 ic1 ?_
      refine aw_goto (pc := 10) (tgt := 14) hC dX10_key_10 (by decide) ?_
      exact hJ14 1
    · skip
      refine aw_iconst (pc := 13) (v := 0) hC dX10_key_13 ic0 ?_
      exact hJ14 0
theorem dX10_hole_0 : decode cX10_hole 0 = .ok (.aload_n 0, 1) := by decide +kernel
theorem dX10_hole_1 : decode cX10_hole 1 = .ok (.iload_n 1, 1) := by decide +kernel
theorem dX10_hole_2 : decode cX10_hole 2 = .ok (.invokestatic 273, 3) := by decide +kernel
theorem dX10_hole_5 : decode cX10_hole 5 = .ok (.ifCond .eq 10, 3) := by decide +kernel
theorem dX10_hole_8 : decode cX10_hole 8 = .ok (.iload_n 2, 1) := by decide +kernel
theorem dX10_hole_9 : decode cX10_hole 9 = .ok (.invokestatic 273, 3) := by decide +kernel
theorem dX10_hole_12 : decode cX10_hole 12 = .ok (.ifCond .ne 7, 3) := by decide +kernel
theorem dX10_hole_15 : decode cX10_hole 15 = .ok (.iconst 1, 1) := by decide +kernel
theorem dX10_hole_16 : decode cX10_hole 16 = .ok (.goto 13, 3) := by decide +kernel
theorem dX10_hole_19 : decode cX10_hole 19 = .ok (.iload_n 1, 1) := by decide +kernel
theorem dX10_hole_20 : decode cX10_hole 20 = .ok (.iload_n 2, 1) := by decide +kernel
theorem dX10_hole_21 : decode cX10_hole 21 = .ok (.if_icmp .ne 7, 3) := by decide +kernel
theorem dX10_hole_24 : decode cX10_hole 24 = .ok (.iconst 2, 1) := by decide +kernel
theorem dX10_hole_25 : decode cX10_hole 25 = .ok (.goto 4, 3) := by decide +kernel
theorem dX10_hole_28 : decode cX10_hole 28 = .ok (.iconst 0, 1) := by decide +kernel
theorem dX10_hole_29 : decode cX10_hole 29 = .ok (.putfield 42, 3) := by decide +kernel
theorem dX10_hole_32 : decode cX10_hole 32 = .ok (.aload_n 0, 1) := by decide +kernel
theorem dX10_hole_33 : decode cX10_hole 33 = .ok (.getfield 42, 3) := by decide +kernel
theorem dX10_hole_36 : decode cX10_hole 36 = .ok (.ifCond .le 5, 3) := by decide +kernel
theorem dX10_hole_39 : decode cX10_hole 39 = .ok (.iconst 0, 1) := by decide +kernel
theorem dX10_hole_40 : decode cX10_hole 40 = .ok (.ireturn, 1) := by decide +kernel
theorem dX10_hole_41 : decode cX10_hole 41 = .ok (.aload_n 0, 1) := by decide +kernel
theorem dX10_hole_42 : decode cX10_hole 42 = .ok (.iload_n 1, 1) := by decide +kernel
theorem dX10_hole_43 : decode cX10_hole 43 = .ok (.iload_n 2, 1) := by decide +kernel
theorem dX10_hole_44 : decode cX10_hole 44 = .ok (.invokevirtual 229, 3) := by decide +kernel
theorem dX10_hole_47 : decode cX10_hole 47 = .ok (.istore 4, 2) := by decide +kernel
theorem dX10_hole_49 : decode cX10_hole 49 = .ok (.aload_n 0, 1) := by decide +kernel
theorem dX10_hole_50 : decode cX10_hole 50 = .ok (.bipush 16, 2) := by decide +kernel
theorem dX10_hole_52 : decode cX10_hole 52 = .ok (.iload_n 1, 1) := by decide +kernel
theorem dX10_hole_53 : decode cX10_hole 53 = .ok (.iadd, 1) := by decide +kernel
theorem dX10_hole_54 : decode cX10_hole 54 = .ok (.iload_n 3, 1) := by decide +kernel
theorem dX10_hole_55 : decode cX10_hole 55 = .ok (.ifCond .eq 19, 3) := by decide +kernel
theorem dX10_hole_58 : decode cX10_hole 58 = .ok (.aload_n 0, 1) := by decide +kernel
theorem dX10_hole_59 : decode cX10_hole 59 = .ok (.getfield 7, 3) := by decide +kernel
theorem dX10_hole_62 : decode cX10_hole 62 = .ok (.bipush 16, 2) := by decide +kernel
theorem dX10_hole_64 : decode cX10_hole 64 = .ok (.iload_n 1, 1) := by decide +kernel
theorem dX10_hole_65 : decode cX10_hole 65 = .ok (.iadd, 1) := by decide +kernel
theorem dX10_hole_66 : decode cX10_hole 66 = .ok (.iaload, 1) := by decide +kernel
theorem dX10_hole_67 : decode cX10_hole 67 = .ok (.iconst 1, 1) := by decide +kernel
theorem dX10_hole_68 : decode cX10_hole 68 = .ok (.iload_n 2, 1) := by decide +kernel
theorem dX10_hole_69 : decode cX10_hole 69 = .ok (.ishl, 1) := by decide +kernel
theorem dX10_hole_70 : decode cX10_hole 70 = .ok (.ior, 1) := by decide +kernel
theorem dX10_hole_71 : decode cX10_hole 71 = .ok (.goto 18, 3) := by decide +kernel
theorem dX10_hole_74 : decode cX10_hole 74 = .ok (.aload_n 0, 1) := by decide +kernel
theorem dX10_hole_75 : decode cX10_hole 75 = .ok (.getfield 7, 3) := by decide +kernel
theorem dX10_hole_78 : decode cX10_hole 78 = .ok (.bipush 16, 2) := by decide +kernel
theorem dX10_hole_80 : decode cX10_hole 80 = .ok (.iload_n 1, 1) := by decide +kernel
theorem dX10_hole_81 : decode cX10_hole 81 = .ok (.iadd, 1) := by decide +kernel
theorem dX10_hole_82 : decode cX10_hole 82 = .ok (.iaload, 1) := by decide +kernel
theorem dX10_hole_83 : decode cX10_hole 83 = .ok (.iconst 1, 1) := by decide +kernel
theorem dX10_hole_84 : decode cX10_hole 84 = .ok (.iload_n 2, 1) := by decide +kernel
theorem dX10_hole_85 : decode cX10_hole 85 = .ok (.ishl, 1) := by decide +kernel
theorem dX10_hole_86 : decode cX10_hole 86 = .ok (.iconst (-1), 1) := by decide +kernel
theorem dX10_hole_87 : decode cX10_hole 87 = .ok (.ixor, 1) := by decide +kernel
theorem dX10_hole_88 : decode cX10_hole 88 = .ok (.iand, 1) := by decide +kernel
theorem dX10_hole_89 : decode cX10_hole 89 = .ok (.invokevirtual 285, 3) := by decide +kernel
theorem dX10_hole_92 : decode cX10_hole 92 = .ok (.istore 5, 2) := by decide +kernel
theorem dX10_hole_94 : decode cX10_hole 94 = .ok (.iload 4, 2) := by decide +kernel
theorem dX10_hole_96 : decode cX10_hole 96 = .ok (.iload_n 3, 1) := by decide +kernel
theorem dX10_hole_97 : decode cX10_hole 97 = .ok (.if_icmp .eq 7, 3) := by decide +kernel
theorem dX10_hole_100 : decode cX10_hole 100 = .ok (.iconst 1, 1) := by decide +kernel
theorem dX10_hole_101 : decode cX10_hole 101 = .ok (.goto 4, 3) := by decide +kernel
theorem dX10_hole_104 : decode cX10_hole 104 = .ok (.iconst 0, 1) := by decide +kernel
theorem dX10_hole_105 : decode cX10_hole 105 = .ok (.ireturn, 1) := by decide +kernel
def f_X10_hole (μ : Mem) (a1 : Int32) (a2 : Int32) (a3 : Int32) : Option (Int32 × Mem) := (f_X10_isRoom a1).bind fun (q1 : Int32) => nm (fun (x2 : Int32) => nm (upm μ 0 12 0 x2) fun (μ3 : Mem) => if (μ3 0 12 0) ≤ 0 then ((f_X10_isHole μ3 a1 a2).bind fun (q4 : Int32) => nm (fun (x5 : Int32) => (f_X10_sets μ3 (16 + a1) x5).bind fun (q6 : Int32 × Mem) => if q4 = a3 then (some (0, q6.2)) else (some (1, q6.2))) fun (J89 : Int32 → Option (Int32 × Mem)) => if a3 = 0 then (ix (16 + a1) 704 (J89 ((μ3 0 13 (16 + a1).toNatClampNeg) &&& ((jshl 1 a2) ^^^ (-1))))) else (ix (16 + a1) 704 (J89 ((μ3 0 13 (16 + a1).toNatClampNeg) ||| (jshl 1 a2))))) else (some (0, μ3))) fun (J29 : Int32 → Option (Int32 × Mem)) => nm (J29 1) fun (J15 : Option (Int32 × Mem)) => if q1 = 0 then (J15) else ((f_X10_isRoom a2).bind fun (q7 : Int32) => if q7 = 0 then (J15) else (if a1 = a2 then (J29 2) else (J29 0)))
set_option maxHeartbeats 4000000 in
set_option maxRecDepth 100000 in
theorem c_X10_hole (G : GG) (l : Launch) (μ : Mem) (a1 : Int32) (a2 : Int32) (a3 : Int32) : CI G l yX10_hole (.code yX10_hole cX10_hole 6 (some .boolean)) 3 [.ref (gad G 0 12), .int a1, .int a2, .int a3] μ (f_X10_hole μ a1 a2 a3) := by
  refine CI.of (own := "SaturdayKeepModel") (L0 := [some (.ref (gad G 0 12)), some (.int a1), some (.int a2), some (.int a3), none, none]) rfl rfl rfl (Nat.le_of_ble_eq_true rfl) (fun C hl hC => ?_)
  subst hl
  delta f_X10_hole
  refine aw_aload_n (pc := 0) (i := 0) hC dX10_hole_0 rfl rfl ?_
  refine aw_iload_n (pc := 1) (i := 1) hC dX10_hole_1 rfl rfl ?_
  refine aw_callSR (pc := 2) (As := [.int a1]) hC ms_X10_isRoom kw1585 (by decide) (c_X10_isRoom G C.2.1   μ a1) rfl (Nat.le_of_ble_eq_true rfl) dX10_hole_2 (fun q1 => ?_)
  refine aw_nmJ (fun (J29 : Int32 → Option (Int32 × Mem)) => ∀ (x2 : Int32), AW G C (qI G C 0 0) 0 0 6 μ 29 [some (.ref (gad G 0 12)), some (.int a1), some (.int a2), some (.int a3), none, none] [.int x2, .ref (gad G 0 12)] (J29 x2)) (fun x2 => ?_) (fun J29 hJ29 => ?_)
  · skip
    refine aw_putIN (pc := 29) hC inX10 (v0 (j := 12) (by decide)) rfl rfl 0 (by decide) kw1314 rfl tyX10 tyX10_ok nmX10 rfl rfl (Nat.le_of_ble_eq_true rfl) rfl dX10_hole_29 (fun μ3 => ?_)
    refine aw_aload_n (pc := 32) (i := 0) hC dX10_hole_32 rfl rfl ?_
    refine aw_get (pc := 33) hC inX10 (v0 (j := 12) (by decide)) rfl rfl 0 (by decide) kw1314 rfl rfl dX10_hole_33 ?_
    refine aw_if_le (pc := 36) (tgt := 41) hC dX10_hole_36 (by decide) (fun _ => ?_) (fun _ => ?_)
    · skip
      refine aw_aload_n (pc := 41) (i := 0) hC dX10_hole_41 rfl rfl ?_
      refine aw_iload_n (pc := 42) (i := 1) hC dX10_hole_42 rfl rfl ?_
      refine aw_iload_n (pc := 43) (i := 2) hC dX10_hole_43 rfl rfl ?_
      refine aw_callVR (pc := 44) (As := [.int a1, .int a2]) hC mb_X10_isHole kw1574 (by decide) (c_X10_isHole G C.2.1   μ3 a1 a2) (v0 (j := 12) (by decide)) rfl rfl rfl (Nat.le_of_ble_eq_true rfl) dX10_hole_44 (fun q4 => ?_)
      refine aw_istore (pc := 47) hC dX10_hole_47 rfl (by decide) ?_
      refine aw_aload_n (pc := 49) (i := 0) hC dX10_hole_49 rfl rfl ?_
      refine aw_bipush (pc := 50) (v := 16) hC dX10_hole_50 bc16 ?_
      refine aw_iload_n (pc := 52) (i := 1) hC dX10_hole_52 rfl rfl ?_
      refine aw_iadd (pc := 53) hC dX10_hole_53 ?_
      refine aw_iload_n (pc := 54) (i := 3) hC dX10_hole_54 rfl rfl ?_
      refine aw_nmJ (fun (J89 : Int32 → Option (Int32 × Mem)) => ∀ (x5 : Int32), AW G C (qI G C 0 0) 0 0 6 μ3 89 [none, none, none, some (.int a3), some (.int q4), none] [.int x5, .int (16 + a1), .ref (gad G 0 12)] (J89 x5)) (fun x5 => ?_) (fun J89 hJ89 => ?_)
      · skip
        refine aw_callVI (pc := 89) (As := [.int (16 + a1), .int x5]) hC mb_X10_sets kw1612 (by decide) (c_X10_sets G C.2.1   μ3 (16 + a1) x5) (v0 (j := 12) (by decide)) rfl rfl rfl (Nat.le_of_ble_eq_true rfl) dX10_hole_89 (fun q6 => ?_)
        refine aw_istore (pc := 92) hC dX10_hole_92 rfl (by decide) ?_
        refine aw_iload (pc := 94) hC dX10_hole_94 rfl ?_
        refine aw_iload_n (pc := 96) (i := 3) hC dX10_hole_96 rfl rfl ?_
        refine aw_icmp_eq (pc := 97) (tgt := 104) hC dX10_hole_97 (by decide) (fun _ => ?_) (fun _ => ?_)
        · skip
          refine aw_iconst (pc := 104) (v := 0) hC dX10_hole_104 ic0 ?_
          exact aw_zret0 hC dX10_hole_105
        · skip
          refine aw_iconst (pc := 100) (v := 1) hC dX10_hole_100 ic1 ?_
          refine aw_goto (pc := 101) (tgt := 105) hC dX10_hole_101 (by decide) ?_
          exact aw_zret1 hC dX10_hole_105
      · skip
        refine aw_if_eq (pc := 55) (tgt := 74) hC dX10_hole_55 (by decide) (fun _ => ?_) (fun _ => ?_)
        · skip
          refine aw_aload_n (pc := 74) (i := 0) hC dX10_hole_74 rfl rfl ?_
          refine aw_get (pc := 75) hC inX10 (v0 (j := 12) (by decide)) rfl rfl 1 (by decide) kw1315 rfl rfl dX10_hole_75 ?_
          refine aw_bipush (pc := 78) (v := 16) hC dX10_hole_78 bc16 ?_
          refine aw_iload_n (pc := 80) (i := 1) hC dX10_hole_80 rfl rfl ?_
          refine aw_iadd (pc := 81) hC dX10_hole_81 ?_
          refine aw_iaload (pc := 82) hC (v0 (j := 13) (by decide)) rfl dX10_hole_82 ?_
          refine aw_iconst (pc := 83) (v := 1) hC dX10_hole_83 ic1 ?_
          refine aw_iload_n (pc := 84) (i := 2) hC dX10_hole_84 rfl rfl ?_
          refine aw_ishl (pc := 85) hC dX10_hole_85 ?_
          refine aw_iconst (pc := 86) (v := (-1)) hC dX10_hole_86 icm1 ?_
          refine aw_ixor (pc := 87) hC dX10_hole_87 ?_
          refine aw_iand (pc := 88) hC dX10_hole_88 ?_
          exact aw_drop [0, 1, 2] (hJ89 ((μ3 0 13 (16 + a1).toNatClampNeg) &&& ((jshl 1 a2) ^^^ (-1))))
        · skip
          refine aw_aload_n (pc := 58) (i := 0) hC dX10_hole_58 rfl rfl ?_
          refine aw_get (pc := 59) hC inX10 (v0 (j := 12) (by decide)) rfl rfl 1 (by decide) kw1315 rfl rfl dX10_hole_59 ?_
          refine aw_bipush (pc := 62) (v := 16) hC dX10_hole_62 bc16 ?_
          refine aw_iload_n (pc := 64) (i := 1) hC dX10_hole_64 rfl rfl ?_
          refine aw_iadd (pc := 65) hC dX10_hole_65 ?_
          refine aw_iaload (pc := 66) hC (v0 (j := 13) (by decide)) rfl dX10_hole_66 ?_
          refine aw_iconst (pc := 67) (v := 1) hC dX10_hole_67 ic1 ?_
          refine aw_iload_n (pc := 68) (i := 2) hC dX10_hole_68 rfl rfl ?_
          refine aw_ishl (pc := 69) hC dX10_hole_69 ?_
          refine aw_ior (pc := 70) hC dX10_hole_70 ?_
          refine aw_goto (pc := 71) (tgt := 89) hC dX10_hole_71 (by decide) ?_
          exact aw_drop [0, 1, 2] (hJ89 ((μ3 0 13 (16 + a1).toNatClampNeg) ||| (jshl 1 a2)))
    · skip
      refine aw_iconst (pc := 39) (v := 0) hC dX10_hole_39 ic0 ?_
      exact aw_zret0 hC dX10_hole_40
  · skip
    refine aw_nmJ (fun (J15 : Option (Int32 × Mem)) => AW G C (qI G C 0 0) 0 0 6 μ 15 [some (.ref (gad G 0 12)), some (.int a1), some (.int a2), some (.int a3), none, none] [.ref (gad G 0 12)] (J15)) ?_ (fun J15 hJ15 => ?_)
    · skip
      refine aw_iconst (pc := 15) (v := 1) hC dX10_hole_15 ic1 ?_
      refine aw_goto (pc := 16) (tgt := 29) hC dX10_hole_16 (by decide) ?_
      exact hJ29 1
    · skip
      refine aw_if_eq (pc := 5) (tgt := 15) hC dX10_hole_5 (by decide) (fun _ => ?_) (fun _ => ?_)
      · skip
        exact hJ15
      · skip
        refine aw_iload_n (pc := 8) (i := 2) hC dX10_hole_8 rfl rfl ?_
        refine aw_callSR (pc := 9) (As := [.int a2]) hC ms_X10_isRoom kw1585 (by decide) (c_X10_isRoom G C.2.1   μ a2) rfl (Nat.le_of_ble_eq_true rfl) dX10_hole_9 (fun q7 => ?_)
        refine aw_if_ne (pc := 12) (tgt := 19) hC dX10_hole_12 (by decide) (fun _ => ?_) (fun _ => ?_)
        · skip
          exact hJ15
        · skip
          refine aw_iload_n (pc := 19) (i := 1) hC dX10_hole_19 rfl rfl ?_
          refine aw_iload_n (pc := 20) (i := 2) hC dX10_hole_20 rfl rfl ?_
          refine aw_icmp_ne (pc := 21) (tgt := 28) hC dX10_hole_21 (by decide) (fun _ => ?_) (fun _ => ?_)
          · skip
            refine aw_iconst (pc := 24) (v := 2) hC dX10_hole_24 ic2 ?_
            refine aw_goto (pc := 25) (tgt := 29) hC dX10_hole_25 (by decide) ?_
            exact hJ29 2
          · skip
            refine aw_iconst (pc := 28) (v := 0) hC dX10_hole_28 ic0 ?_
            exact hJ29 0
theorem dX10_bath_0 : decode cX10_bath 0 = .ok (.aload_n 0, 1) := by decide +kernel
theorem dX10_bath_1 : decode cX10_bath 1 = .ok (.iload_n 1, 1) := by decide +kernel
theorem dX10_bath_2 : decode cX10_bath 2 = .ok (.invokestatic 273, 3) := by decide +kernel
theorem dX10_bath_5 : decode cX10_bath 5 = .ok (.ifCond .ne 7, 3) := by decide +kernel
theorem dX10_bath_8 : decode cX10_bath 8 = .ok (.iconst 1, 1) := by decide +kernel
theorem dX10_bath_9 : decode cX10_bath 9 = .ok (.goto 4, 3) := by decide +kernel
theorem dX10_bath_12 : decode cX10_bath 12 = .ok (.iconst 0, 1) := by decide +kernel
theorem dX10_bath_13 : decode cX10_bath 13 = .ok (.putfield 42, 3) := by decide +kernel
theorem dX10_bath_16 : decode cX10_bath 16 = .ok (.aload_n 0, 1) := by decide +kernel
theorem dX10_bath_17 : decode cX10_bath 17 = .ok (.getfield 42, 3) := by decide +kernel
theorem dX10_bath_20 : decode cX10_bath 20 = .ok (.ifCond .le 7, 3) := by decide +kernel
theorem dX10_bath_23 : decode cX10_bath 23 = .ok (.iconst 0, 1) := by decide +kernel
theorem dX10_bath_24 : decode cX10_bath 24 = .ok (.goto 9, 3) := by decide +kernel
theorem dX10_bath_27 : decode cX10_bath 27 = .ok (.aload_n 0, 1) := by decide +kernel
theorem dX10_bath_28 : decode cX10_bath 28 = .ok (.iconst 4, 1) := by decide +kernel
theorem dX10_bath_29 : decode cX10_bath 29 = .ok (.iload_n 1, 1) := by decide +kernel
theorem dX10_bath_30 : decode cX10_bath 30 = .ok (.invokevirtual 285, 3) := by decide +kernel
theorem dX10_bath_33 : decode cX10_bath 33 = .ok (.ireturn, 1) := by decide +kernel
def f_X10_bath (μ : Mem) (a1 : Int32) : Option (Int32 × Mem) := (f_X10_isRoom a1).bind fun (q1 : Int32) => nm (fun (x2 : Int32) => nm (upm μ 0 12 0 x2) fun (μ3 : Mem) => if (μ3 0 12 0) ≤ 0 then ((f_X10_sets μ3 4 a1).bind fun (q4 : Int32 × Mem) => some (q4.1, q4.2)) else (some (0, μ3))) fun (J13 : Int32 → Option (Int32 × Mem)) => if q1 = 0 then (J13 1) else (J13 0)
set_option maxHeartbeats 4000000 in
set_option maxRecDepth 100000 in
theorem c_X10_bath (G : GG) (l : Launch) (μ : Mem) (a1 : Int32) : CI G l yX10_bath (.code yX10_bath cX10_bath 2 (some .int)) 3 [.ref (gad G 0 12), .int a1] μ (f_X10_bath μ a1) := by
  refine CI.of (own := "SaturdayKeepModel") (L0 := [some (.ref (gad G 0 12)), some (.int a1)]) rfl rfl rfl (Nat.le_of_ble_eq_true rfl) (fun C hl hC => ?_)
  subst hl
  delta f_X10_bath
  refine aw_aload_n (pc := 0) (i := 0) hC dX10_bath_0 rfl rfl ?_
  refine aw_iload_n (pc := 1) (i := 1) hC dX10_bath_1 rfl rfl ?_
  refine aw_callSR (pc := 2) (As := [.int a1]) hC ms_X10_isRoom kw1585 (by decide) (c_X10_isRoom G C.2.1   μ a1) rfl (Nat.le_of_ble_eq_true rfl) dX10_bath_2 (fun q1 => ?_)
  refine aw_nmJ (fun (J13 : Int32 → Option (Int32 × Mem)) => ∀ (x2 : Int32), AW G C (qI G C 0 0) 0 0 2 μ 13 [some (.ref (gad G 0 12)), some (.int a1)] [.int x2, .ref (gad G 0 12)] (J13 x2)) (fun x2 => ?_) (fun J13 hJ13 => ?_)
  · skip
    refine aw_putIN (pc := 13) hC inX10 (v0 (j := 12) (by decide)) rfl rfl 0 (by decide) kw1314 rfl tyX10 tyX10_ok nmX10 rfl rfl (Nat.le_of_ble_eq_true rfl) rfl dX10_bath_13 (fun μ3 => ?_)
    refine aw_aload_n (pc := 16) (i := 0) hC dX10_bath_16 rfl rfl ?_
    refine aw_get (pc := 17) hC inX10 (v0 (j := 12) (by decide)) rfl rfl 0 (by decide) kw1314 rfl rfl dX10_bath_17 ?_
    refine aw_if_le (pc := 20) (tgt := 27) hC dX10_bath_20 (by decide) (fun _ => ?_) (fun _ => ?_)
    · skip
      refine aw_aload_n (pc := 27) (i := 0) hC dX10_bath_27 rfl rfl ?_
      refine aw_iconst (pc := 28) (v := 4) hC dX10_bath_28 ic4 ?_
      refine aw_iload_n (pc := 29) (i := 1) hC dX10_bath_29 rfl rfl ?_
      refine aw_callVI (pc := 30) (As := [.int 4, .int a1]) hC mb_X10_sets kw1612 (by decide) (c_X10_sets G C.2.1   μ3 4 a1) (v0 (j := 12) (by decide)) rfl rfl rfl (Nat.le_of_ble_eq_true rfl) dX10_bath_30 (fun q4 => ?_)
      exact aw_iret hC dX10_bath_33
    · skip
      refine aw_iconst (pc := 23) (v := 0) hC dX10_bath_23 ic0 ?_
      refine aw_goto (pc := 24) (tgt := 33) hC dX10_bath_24 (by decide) ?_
      exact aw_iret hC dX10_bath_33
  · skip
    refine aw_if_ne (pc := 5) (tgt := 12) hC dX10_bath_5 (by decide) (fun _ => ?_) (fun _ => ?_)
    · skip
      refine aw_iconst (pc := 8) (v := 1) hC dX10_bath_8 ic1 ?_
      refine aw_goto (pc := 9) (tgt := 13) hC dX10_bath_9 (by decide) ?_
      exact hJ13 1
    · skip
      refine aw_iconst (pc := 12) (v := 0) hC dX10_bath_12 ic0 ?_
      exact hJ13 0
theorem dX10_keep_0 : decode cX10_keep 0 = .ok (.aload_n 0, 1) := by decide +kernel
theorem dX10_keep_1 : decode cX10_keep 1 = .ok (.iload_n 1, 1) := by decide +kernel
theorem dX10_keep_2 : decode cX10_keep 2 = .ok (.iconst 0, 1) := by decide +kernel
theorem dX10_keep_3 : decode cX10_keep 3 = .ok (.iconst 1, 1) := by decide +kernel
theorem dX10_keep_4 : decode cX10_keep 4 = .ok (.invokestatic 45, 3) := by decide +kernel
theorem dX10_keep_7 : decode cX10_keep 7 = .ok (.ifCond .ne 7, 3) := by decide +kernel
theorem dX10_keep_10 : decode cX10_keep 10 = .ok (.iconst 1, 1) := by decide +kernel
theorem dX10_keep_11 : decode cX10_keep 11 = .ok (.goto 4, 3) := by decide +kernel
theorem dX10_keep_14 : decode cX10_keep 14 = .ok (.iconst 0, 1) := by decide +kernel
theorem dX10_keep_15 : decode cX10_keep 15 = .ok (.putfield 42, 3) := by decide +kernel
theorem dX10_keep_18 : decode cX10_keep 18 = .ok (.aload_n 0, 1) := by decide +kernel
theorem dX10_keep_19 : decode cX10_keep 19 = .ok (.getfield 42, 3) := by decide +kernel
theorem dX10_keep_22 : decode cX10_keep 22 = .ok (.ifCond .le 7, 3) := by decide +kernel
theorem dX10_keep_25 : decode cX10_keep 25 = .ok (.iconst 0, 1) := by decide +kernel
theorem dX10_keep_26 : decode cX10_keep 26 = .ok (.goto 9, 3) := by decide +kernel
theorem dX10_keep_29 : decode cX10_keep 29 = .ok (.aload_n 0, 1) := by decide +kernel
theorem dX10_keep_30 : decode cX10_keep 30 = .ok (.iconst 5, 1) := by decide +kernel
theorem dX10_keep_31 : decode cX10_keep 31 = .ok (.iload_n 1, 1) := by decide +kernel
theorem dX10_keep_32 : decode cX10_keep 32 = .ok (.invokevirtual 285, 3) := by decide +kernel
theorem dX10_keep_35 : decode cX10_keep 35 = .ok (.ireturn, 1) := by decide +kernel
def f_X10_keep (μ : Mem) (a1 : Int32) : Option (Int32 × Mem) := (f_X10_isIn a1 0 1).bind fun (q1 : Int32) => nm (fun (x2 : Int32) => nm (upm μ 0 12 0 x2) fun (μ3 : Mem) => if (μ3 0 12 0) ≤ 0 then ((f_X10_sets μ3 5 a1).bind fun (q4 : Int32 × Mem) => some (q4.1, q4.2)) else (some (0, μ3))) fun (J15 : Int32 → Option (Int32 × Mem)) => if q1 = 0 then (J15 1) else (J15 0)
set_option maxHeartbeats 4000000 in
set_option maxRecDepth 100000 in
theorem c_X10_keep (G : GG) (l : Launch) (μ : Mem) (a1 : Int32) : CI G l yX10_keep (.code yX10_keep cX10_keep 2 (some .int)) 3 [.ref (gad G 0 12), .int a1] μ (f_X10_keep μ a1) := by
  refine CI.of (own := "SaturdayKeepModel") (L0 := [some (.ref (gad G 0 12)), some (.int a1)]) rfl rfl rfl (Nat.le_of_ble_eq_true rfl) (fun C hl hC => ?_)
  subst hl
  delta f_X10_keep
  refine aw_aload_n (pc := 0) (i := 0) hC dX10_keep_0 rfl rfl ?_
  refine aw_iload_n (pc := 1) (i := 1) hC dX10_keep_1 rfl rfl ?_
  refine aw_iconst (pc := 2) (v := 0) hC dX10_keep_2 ic0 ?_
  refine aw_iconst (pc := 3) (v := 1) hC dX10_keep_3 ic1 ?_
  refine aw_callSR (pc := 4) (As := [.int a1, .int 0, .int 1]) hC ms_X10_isIn kw1394 (by decide) (c_X10_isIn G C.2.1   μ a1 0 1) rfl (Nat.le_of_ble_eq_true rfl) dX10_keep_4 (fun q1 => ?_)
  refine aw_nmJ (fun (J15 : Int32 → Option (Int32 × Mem)) => ∀ (x2 : Int32), AW G C (qI G C 0 0) 0 0 2 μ 15 [some (.ref (gad G 0 12)), some (.int a1)] [.int x2, .ref (gad G 0 12)] (J15 x2)) (fun x2 => ?_) (fun J15 hJ15 => ?_)
  · skip
    refine aw_putIN (pc := 15) hC inX10 (v0 (j := 12) (by decide)) rfl rfl 0 (by decide) kw1314 rfl tyX10 tyX10_ok nmX10 rfl rfl (Nat.le_of_ble_eq_true rfl) rfl dX10_keep_15 (fun μ3 => ?_)
    refine aw_aload_n (pc := 18) (i := 0) hC dX10_keep_18 rfl rfl ?_
    refine aw_get (pc := 19) hC inX10 (v0 (j := 12) (by decide)) rfl rfl 0 (by decide) kw1314 rfl rfl dX10_keep_19 ?_
    refine aw_if_le (pc := 22) (tgt := 29) hC dX10_keep_22 (by decide) (fun _ => ?_) (fun _ => ?_)
    · skip
      refine aw_aload_n (pc := 29) (i := 0) hC dX10_keep_29 rfl rfl ?_
      refine aw_iconst (pc := 30) (v := 5) hC dX10_keep_30 ic5 ?_
      refine aw_iload_n (pc := 31) (i := 1) hC dX10_keep_31 rfl rfl ?_
      refine aw_callVI (pc := 32) (As := [.int 5, .int a1]) hC mb_X10_sets kw1612 (by decide) (c_X10_sets G C.2.1   μ3 5 a1) (v0 (j := 12) (by decide)) rfl rfl rfl (Nat.le_of_ble_eq_true rfl) dX10_keep_32 (fun q4 => ?_)
      exact aw_iret hC dX10_keep_35
    · skip
      refine aw_iconst (pc := 25) (v := 0) hC dX10_keep_25 ic0 ?_
      refine aw_goto (pc := 26) (tgt := 35) hC dX10_keep_26 (by decide) ?_
      exact aw_iret hC dX10_keep_35
  · skip
    refine aw_if_ne (pc := 7) (tgt := 14) hC dX10_keep_7 (by decide) (fun _ => ?_) (fun _ => ?_)
    · skip
      refine aw_iconst (pc := 10) (v := 1) hC dX10_keep_10 ic1 ?_
      refine aw_goto (pc := 11) (tgt := 15) hC dX10_keep_11 (by decide) ?_
      exact hJ15 1
    · skip
      refine aw_iconst (pc := 14) (v := 0) hC dX10_keep_14 ic0 ?_
      exact hJ15 0
theorem dX10_masons_0 : decode cX10_masons 0 = .ok (.aload_n 0, 1) := by decide +kernel
theorem dX10_masons_1 : decode cX10_masons 1 = .ok (.iload_n 1, 1) := by decide +kernel
theorem dX10_masons_2 : decode cX10_masons 2 = .ok (.iconst 0, 1) := by decide +kernel
theorem dX10_masons_3 : decode cX10_masons 3 = .ok (.bipush 9, 2) := by decide +kernel
theorem dX10_masons_5 : decode cX10_masons 5 = .ok (.invokestatic 45, 3) := by decide +kernel
theorem dX10_masons_8 : decode cX10_masons 8 = .ok (.ifCond .ne 7, 3) := by decide +kernel
theorem dX10_masons_11 : decode cX10_masons 11 = .ok (.iconst 1, 1) := by decide +kernel
theorem dX10_masons_12 : decode cX10_masons 12 = .ok (.goto 4, 3) := by decide +kernel
theorem dX10_masons_15 : decode cX10_masons 15 = .ok (.iconst 0, 1) := by decide +kernel
theorem dX10_masons_16 : decode cX10_masons 16 = .ok (.putfield 42, 3) := by decide +kernel
theorem dX10_masons_19 : decode cX10_masons 19 = .ok (.aload_n 0, 1) := by decide +kernel
theorem dX10_masons_20 : decode cX10_masons 20 = .ok (.getfield 42, 3) := by decide +kernel
theorem dX10_masons_23 : decode cX10_masons 23 = .ok (.ifCond .le 7, 3) := by decide +kernel
theorem dX10_masons_26 : decode cX10_masons 26 = .ok (.iconst 0, 1) := by decide +kernel
theorem dX10_masons_27 : decode cX10_masons 27 = .ok (.goto 10, 3) := by decide +kernel
theorem dX10_masons_30 : decode cX10_masons 30 = .ok (.aload_n 0, 1) := by decide +kernel
theorem dX10_masons_31 : decode cX10_masons 31 = .ok (.bipush 6, 2) := by decide +kernel
theorem dX10_masons_33 : decode cX10_masons 33 = .ok (.iload_n 1, 1) := by decide +kernel
theorem dX10_masons_34 : decode cX10_masons 34 = .ok (.invokevirtual 285, 3) := by decide +kernel
theorem dX10_masons_37 : decode cX10_masons 37 = .ok (.ireturn, 1) := by decide +kernel
def f_X10_masons (μ : Mem) (a1 : Int32) : Option (Int32 × Mem) := (f_X10_isIn a1 0 9).bind fun (q1 : Int32) => nm (fun (x2 : Int32) => nm (upm μ 0 12 0 x2) fun (μ3 : Mem) => if (μ3 0 12 0) ≤ 0 then ((f_X10_sets μ3 6 a1).bind fun (q4 : Int32 × Mem) => some (q4.1, q4.2)) else (some (0, μ3))) fun (J16 : Int32 → Option (Int32 × Mem)) => if q1 = 0 then (J16 1) else (J16 0)
set_option maxHeartbeats 4000000 in
set_option maxRecDepth 100000 in
theorem c_X10_masons (G : GG) (l : Launch) (μ : Mem) (a1 : Int32) : CI G l yX10_masons (.code yX10_masons cX10_masons 2 (some .int)) 3 [.ref (gad G 0 12), .int a1] μ (f_X10_masons μ a1) := by
  refine CI.of (own := "SaturdayKeepModel") (L0 := [some (.ref (gad G 0 12)), some (.int a1)]) rfl rfl rfl (Nat.le_of_ble_eq_true rfl) (fun C hl hC => ?_)
  subst hl
  delta f_X10_masons
  refine aw_aload_n (pc := 0) (i := 0) hC dX10_masons_0 rfl rfl ?_
  refine aw_iload_n (pc := 1) (i := 1) hC dX10_masons_1 rfl rfl ?_
  refine aw_iconst (pc := 2) (v := 0) hC dX10_masons_2 ic0 ?_
  refine aw_bipush (pc := 3) (v := 9) hC dX10_masons_3 bc9 ?_
  refine aw_callSR (pc := 5) (As := [.int a1, .int 0, .int 9]) hC ms_X10_isIn kw1394 (by decide) (c_X10_isIn G C.2.1   μ a1 0 9) rfl (Nat.le_of_ble_eq_true rfl) dX10_masons_5 (fun q1 => ?_)
  refine aw_nmJ (fun (J16 : Int32 → Option (Int32 × Mem)) => ∀ (x2 : Int32), AW G C (qI G C 0 0) 0 0 2 μ 16 [some (.ref (gad G 0 12)), some (.int a1)] [.int x2, .ref (gad G 0 12)] (J16 x2)) (fun x2 => ?_) (fun J16 hJ16 => ?_)
  · skip
    refine aw_putIN (pc := 16) hC inX10 (v0 (j := 12) (by decide)) rfl rfl 0 (by decide) kw1314 rfl tyX10 tyX10_ok nmX10 rfl rfl (Nat.le_of_ble_eq_true rfl) rfl dX10_masons_16 (fun μ3 => ?_)
    refine aw_aload_n (pc := 19) (i := 0) hC dX10_masons_19 rfl rfl ?_
    refine aw_get (pc := 20) hC inX10 (v0 (j := 12) (by decide)) rfl rfl 0 (by decide) kw1314 rfl rfl dX10_masons_20 ?_
    refine aw_if_le (pc := 23) (tgt := 30) hC dX10_masons_23 (by decide) (fun _ => ?_) (fun _ => ?_)
    · skip
      refine aw_aload_n (pc := 30) (i := 0) hC dX10_masons_30 rfl rfl ?_
      refine aw_bipush (pc := 31) (v := 6) hC dX10_masons_31 bc6 ?_
      refine aw_iload_n (pc := 33) (i := 1) hC dX10_masons_33 rfl rfl ?_
      refine aw_callVI (pc := 34) (As := [.int 6, .int a1]) hC mb_X10_sets kw1612 (by decide) (c_X10_sets G C.2.1   μ3 6 a1) (v0 (j := 12) (by decide)) rfl rfl rfl (Nat.le_of_ble_eq_true rfl) dX10_masons_34 (fun q4 => ?_)
      exact aw_iret hC dX10_masons_37
    · skip
      refine aw_iconst (pc := 26) (v := 0) hC dX10_masons_26 ic0 ?_
      refine aw_goto (pc := 27) (tgt := 37) hC dX10_masons_27 (by decide) ?_
      exact aw_iret hC dX10_masons_37
  · skip
    refine aw_if_ne (pc := 8) (tgt := 15) hC dX10_masons_8 (by decide) (fun _ => ?_) (fun _ => ?_)
    · skip
      refine aw_iconst (pc := 11) (v := 1) hC dX10_masons_11 ic1 ?_
      refine aw_goto (pc := 12) (tgt := 16) hC dX10_masons_12 (by decide) ?_
      exact hJ16 1
    · skip
      refine aw_iconst (pc := 15) (v := 0) hC dX10_masons_15 ic0 ?_
      exact hJ16 0
theorem dX10_buy_0 : decode cX10_buy 0 = .ok (.aload_n 0, 1) := by decide +kernel
theorem dX10_buy_1 : decode cX10_buy 1 = .ok (.iload_n 1, 1) := by decide +kernel
theorem dX10_buy_2 : decode cX10_buy 2 = .ok (.iconst 1, 1) := by decide +kernel
theorem dX10_buy_3 : decode cX10_buy 3 = .ok (.sipush 999, 3) := by decide +kernel
theorem dX10_buy_6 : decode cX10_buy 6 = .ok (.invokestatic 45, 3) := by decide +kernel
theorem dX10_buy_9 : decode cX10_buy 9 = .ok (.ifCond .ne 7, 3) := by decide +kernel
theorem dX10_buy_12 : decode cX10_buy 12 = .ok (.iconst 1, 1) := by decide +kernel
theorem dX10_buy_13 : decode cX10_buy 13 = .ok (.goto 4, 3) := by decide +kernel
theorem dX10_buy_16 : decode cX10_buy 16 = .ok (.iconst 0, 1) := by decide +kernel
theorem dX10_buy_17 : decode cX10_buy 17 = .ok (.putfield 42, 3) := by decide +kernel
theorem dX10_buy_20 : decode cX10_buy 20 = .ok (.aload_n 0, 1) := by decide +kernel
theorem dX10_buy_21 : decode cX10_buy 21 = .ok (.getfield 42, 3) := by decide +kernel
theorem dX10_buy_24 : decode cX10_buy 24 = .ok (.ifCond .le 5, 3) := by decide +kernel
theorem dX10_buy_27 : decode cX10_buy 27 = .ok (.iconst 0, 1) := by decide +kernel
theorem dX10_buy_28 : decode cX10_buy 28 = .ok (.ireturn, 1) := by decide +kernel
theorem dX10_buy_29 : decode cX10_buy 29 = .ok (.aload_n 0, 1) := by decide +kernel
theorem dX10_buy_30 : decode cX10_buy 30 = .ok (.bipush 7, 2) := by decide +kernel
theorem dX10_buy_32 : decode cX10_buy 32 = .ok (.sipush 9999, 3) := by decide +kernel
theorem dX10_buy_35 : decode cX10_buy 35 = .ok (.aload_n 0, 1) := by decide +kernel
theorem dX10_buy_36 : decode cX10_buy 36 = .ok (.getfield 7, 3) := by decide +kernel
theorem dX10_buy_39 : decode cX10_buy 39 = .ok (.bipush 7, 2) := by decide +kernel
theorem dX10_buy_41 : decode cX10_buy 41 = .ok (.iaload, 1) := by decide +kernel
theorem dX10_buy_42 : decode cX10_buy 42 = .ok (.iload_n 1, 1) := by decide +kernel
theorem dX10_buy_43 : decode cX10_buy 43 = .ok (.iadd, 1) := by decide +kernel
theorem dX10_buy_44 : decode cX10_buy 44 = .ok (.invokestatic 243, 3) := by decide +kernel
theorem dX10_buy_47 : decode cX10_buy 47 = .ok (.invokevirtual 285, 3) := by decide +kernel
theorem dX10_buy_50 : decode cX10_buy 50 = .ok (.istore_n 2, 1) := by decide +kernel
theorem dX10_buy_51 : decode cX10_buy 51 = .ok (.aload_n 0, 1) := by decide +kernel
theorem dX10_buy_52 : decode cX10_buy 52 = .ok (.getfield 7, 3) := by decide +kernel
theorem dX10_buy_55 : decode cX10_buy 55 = .ok (.bipush 7, 2) := by decide +kernel
theorem dX10_buy_57 : decode cX10_buy 57 = .ok (.iaload, 1) := by decide +kernel
theorem dX10_buy_58 : decode cX10_buy 58 = .ok (.ireturn, 1) := by decide +kernel
def f_X10_buy (μ : Mem) (a1 : Int32) : Option (Int32 × Mem) := (f_X10_isIn a1 1 999).bind fun (q1 : Int32) => nm (fun (x2 : Int32) => nm (upm μ 0 12 0 x2) fun (μ3 : Mem) => if (μ3 0 12 0) ≤ 0 then (ix 7 704 ((f_X10_lesser 9999 ((μ3 0 13 (Int32.toNatClampNeg 7)) + a1)).bind fun (q4 : Int32) => (f_X10_sets μ3 7 q4).bind fun (q5 : Int32 × Mem) => ix 7 704 (some ((q5.2 0 13 (Int32.toNatClampNeg 7)), q5.2)))) else (some (0, μ3))) fun (J17 : Int32 → Option (Int32 × Mem)) => if q1 = 0 then (J17 1) else (J17 0)
set_option maxHeartbeats 4000000 in
set_option maxRecDepth 100000 in
theorem c_X10_buy (G : GG) (l : Launch) (μ : Mem) (a1 : Int32) : CI G l yX10_buy (.code yX10_buy cX10_buy 3 (some .int)) 3 [.ref (gad G 0 12), .int a1] μ (f_X10_buy μ a1) := by
  refine CI.of (own := "SaturdayKeepModel") (L0 := [some (.ref (gad G 0 12)), some (.int a1), none]) rfl rfl rfl (Nat.le_of_ble_eq_true rfl) (fun C hl hC => ?_)
  subst hl
  delta f_X10_buy
  refine aw_aload_n (pc := 0) (i := 0) hC dX10_buy_0 rfl rfl ?_
  refine aw_iload_n (pc := 1) (i := 1) hC dX10_buy_1 rfl rfl ?_
  refine aw_iconst (pc := 2) (v := 1) hC dX10_buy_2 ic1 ?_
  refine aw_sipush (pc := 3) (v := 999) hC dX10_buy_3 sc999 ?_
  refine aw_callSR (pc := 6) (As := [.int a1, .int 1, .int 999]) hC ms_X10_isIn kw1394 (by decide) (c_X10_isIn G C.2.1   μ a1 1 999) rfl (Nat.le_of_ble_eq_true rfl) dX10_buy_6 (fun q1 => ?_)
  refine aw_nmJ (fun (J17 : Int32 → Option (Int32 × Mem)) => ∀ (x2 : Int32), AW G C (qI G C 0 0) 0 0 3 μ 17 [some (.ref (gad G 0 12)), some (.int a1), none] [.int x2, .ref (gad G 0 12)] (J17 x2)) (fun x2 => ?_) (fun J17 hJ17 => ?_)
  · skip
    refine aw_putIN (pc := 17) hC inX10 (v0 (j := 12) (by decide)) rfl rfl 0 (by decide) kw1314 rfl tyX10 tyX10_ok nmX10 rfl rfl (Nat.le_of_ble_eq_true rfl) rfl dX10_buy_17 (fun μ3 => ?_)
    refine aw_aload_n (pc := 20) (i := 0) hC dX10_buy_20 rfl rfl ?_
    refine aw_get (pc := 21) hC inX10 (v0 (j := 12) (by decide)) rfl rfl 0 (by decide) kw1314 rfl rfl dX10_buy_21 ?_
    refine aw_if_le (pc := 24) (tgt := 29) hC dX10_buy_24 (by decide) (fun _ => ?_) (fun _ => ?_)
    · skip
      refine aw_aload_n (pc := 29) (i := 0) hC dX10_buy_29 rfl rfl ?_
      refine aw_bipush (pc := 30) (v := 7) hC dX10_buy_30 bc7 ?_
      refine aw_sipush (pc := 32) (v := 9999) hC dX10_buy_32 sc9999 ?_
      refine aw_aload_n (pc := 35) (i := 0) hC dX10_buy_35 rfl rfl ?_
      refine aw_get (pc := 36) hC inX10 (v0 (j := 12) (by decide)) rfl rfl 1 (by decide) kw1315 rfl rfl dX10_buy_36 ?_
      refine aw_bipush (pc := 39) (v := 7) hC dX10_buy_39 bc7 ?_
      refine aw_iaload (pc := 41) hC (v0 (j := 13) (by decide)) rfl dX10_buy_41 ?_
      refine aw_iload_n (pc := 42) (i := 1) hC dX10_buy_42 rfl rfl ?_
      refine aw_iadd (pc := 43) hC dX10_buy_43 ?_
      refine aw_callSR (pc := 44) (As := [.int 9999, .int ((μ3 0 13 (Int32.toNatClampNeg 7)) + a1)]) hC ms_X10_lesser kw1648 (by decide) (c_X10_lesser G C.2.1   μ3 9999 ((μ3 0 13 (Int32.toNatClampNeg 7)) + a1)) rfl (Nat.le_of_ble_eq_true rfl) dX10_buy_44 (fun q4 => ?_)
      refine aw_callVI (pc := 47) (As := [.int 7, .int q4]) hC mb_X10_sets kw1612 (by decide) (c_X10_sets G C.2.1   μ3 7 q4) (v0 (j := 12) (by decide)) rfl rfl rfl (Nat.le_of_ble_eq_true rfl) dX10_buy_47 (fun q5 => ?_)
      refine aw_istore_n (pc := 50) (i := 2) hC dX10_buy_50 rfl rfl (by decide) ?_
      refine aw_aload_n (pc := 51) (i := 0) hC dX10_buy_51 rfl rfl ?_
      refine aw_get (pc := 52) hC inX10 (v0 (j := 12) (by decide)) rfl rfl 1 (by decide) kw1315 rfl rfl dX10_buy_52 ?_
      refine aw_bipush (pc := 55) (v := 7) hC dX10_buy_55 bc7 ?_
      refine aw_iaload (pc := 57) hC (v0 (j := 13) (by decide)) rfl dX10_buy_57 ?_
      exact aw_iret hC dX10_buy_58
    · skip
      refine aw_iconst (pc := 27) (v := 0) hC dX10_buy_27 ic0 ?_
      exact aw_iret hC dX10_buy_28
  · skip
    refine aw_if_ne (pc := 9) (tgt := 16) hC dX10_buy_9 (by decide) (fun _ => ?_) (fun _ => ?_)
    · skip
      refine aw_iconst (pc := 12) (v := 1) hC dX10_buy_12 ic1 ?_
      refine aw_goto (pc := 13) (tgt := 17) hC dX10_buy_13 (by decide) ?_
      exact hJ17 1
    · skip
      refine aw_iconst (pc := 16) (v := 0) hC dX10_buy_16 ic0 ?_
      exact hJ17 0
theorem dX10_calm_0 : decode cX10_calm 0 = .ok (.aload_n 0, 1) := by decide +kernel
theorem dX10_calm_1 : decode cX10_calm 1 = .ok (.aload_n 0, 1) := by decide +kernel
theorem dX10_calm_2 : decode cX10_calm 2 = .ok (.iload_n 1, 1) := by decide +kernel
theorem dX10_calm_3 : decode cX10_calm 3 = .ok (.invokevirtual 267, 3) := by decide +kernel
theorem dX10_calm_6 : decode cX10_calm 6 = .ok (.ifCond .ne 7, 3) := by decide +kernel
theorem dX10_calm_9 : decode cX10_calm 9 = .ok (.iconst 1, 1) := by decide +kernel
theorem dX10_calm_10 : decode cX10_calm 10 = .ok (.goto 4, 3) := by decide +kernel
theorem dX10_calm_13 : decode cX10_calm 13 = .ok (.iconst 0, 1) := by decide +kernel
theorem dX10_calm_14 : decode cX10_calm 14 = .ok (.putfield 42, 3) := by decide +kernel
theorem dX10_calm_17 : decode cX10_calm 17 = .ok (.aload_n 0, 1) := by decide +kernel
theorem dX10_calm_18 : decode cX10_calm 18 = .ok (.getfield 42, 3) := by decide +kernel
theorem dX10_calm_21 : decode cX10_calm 21 = .ok (.ifCond .le 5, 3) := by decide +kernel
theorem dX10_calm_24 : decode cX10_calm 24 = .ok (.iconst 0, 1) := by decide +kernel
theorem dX10_calm_25 : decode cX10_calm 25 = .ok (.ireturn, 1) := by decide +kernel
theorem dX10_calm_26 : decode cX10_calm 26 = .ok (.aload_n 0, 1) := by decide +kernel
theorem dX10_calm_27 : decode cX10_calm 27 = .ok (.bipush 24, 2) := by decide +kernel
theorem dX10_calm_29 : decode cX10_calm 29 = .ok (.iconst 5, 1) := by decide +kernel
theorem dX10_calm_30 : decode cX10_calm 30 = .ok (.iload_n 1, 1) := by decide +kernel
theorem dX10_calm_31 : decode cX10_calm 31 = .ok (.imul, 1) := by decide +kernel
theorem dX10_calm_32 : decode cX10_calm 32 = .ok (.iadd, 1) := by decide +kernel
theorem dX10_calm_33 : decode cX10_calm 33 = .ok (.iconst 2, 1) := by decide +kernel
theorem dX10_calm_34 : decode cX10_calm 34 = .ok (.iadd, 1) := by decide +kernel
theorem dX10_calm_35 : decode cX10_calm 35 = .ok (.aload_n 0, 1) := by decide +kernel
theorem dX10_calm_36 : decode cX10_calm 36 = .ok (.iload_n 1, 1) := by decide +kernel
theorem dX10_calm_37 : decode cX10_calm 37 = .ok (.iconst 2, 1) := by decide +kernel
theorem dX10_calm_38 : decode cX10_calm 38 = .ok (.invokevirtual 49, 3) := by decide +kernel
theorem dX10_calm_41 : decode cX10_calm 41 = .ok (.iconst 2, 1) := by decide +kernel
theorem dX10_calm_42 : decode cX10_calm 42 = .ok (.idiv, 1) := by decide +kernel
theorem dX10_calm_43 : decode cX10_calm 43 = .ok (.invokevirtual 285, 3) := by decide +kernel
theorem dX10_calm_46 : decode cX10_calm 46 = .ok (.istore_n 2, 1) := by decide +kernel
theorem dX10_calm_47 : decode cX10_calm 47 = .ok (.aload_n 0, 1) := by decide +kernel
theorem dX10_calm_48 : decode cX10_calm 48 = .ok (.iload_n 1, 1) := by decide +kernel
theorem dX10_calm_49 : decode cX10_calm 49 = .ok (.iconst 2, 1) := by decide +kernel
theorem dX10_calm_50 : decode cX10_calm 50 = .ok (.invokevirtual 49, 3) := by decide +kernel
theorem dX10_calm_53 : decode cX10_calm 53 = .ok (.ireturn, 1) := by decide +kernel
def f_X10_calm (μ : Mem) (a1 : Int32) : Option (Int32 × Mem) := (f_X10_isGuest μ a1).bind fun (q1 : Int32) => nm (fun (x2 : Int32) => nm (upm μ 0 12 0 x2) fun (μ3 : Mem) => if (μ3 0 12 0) ≤ 0 then ((f_X10_of μ3 a1 2).bind fun (q4 : Int32) => (f_X10_sets μ3 ((24 + (5 * a1)) + 2) (q4 / 2)).bind fun (q5 : Int32 × Mem) => (f_X10_of q5.2 a1 2).bind fun (q6 : Int32) => some (q6, q5.2)) else (some (0, μ3))) fun (J14 : Int32 → Option (Int32 × Mem)) => if q1 = 0 then (J14 1) else (J14 0)
set_option maxHeartbeats 4000000 in
set_option maxRecDepth 100000 in
theorem c_X10_calm (G : GG) (l : Launch) (μ : Mem) (a1 : Int32) : CI G l yX10_calm (.code yX10_calm cX10_calm 3 (some .int)) 3 [.ref (gad G 0 12), .int a1] μ (f_X10_calm μ a1) := by
  refine CI.of (own := "SaturdayKeepModel") (L0 := [some (.ref (gad G 0 12)), some (.int a1), none]) rfl rfl rfl (Nat.le_of_ble_eq_true rfl) (fun C hl hC => ?_)
  subst hl
  delta f_X10_calm
  refine aw_aload_n (pc := 0) (i := 0) hC dX10_calm_0 rfl rfl ?_
  refine aw_aload_n (pc := 1) (i := 0) hC dX10_calm_1 rfl rfl ?_
  refine aw_iload_n (pc := 2) (i := 1) hC dX10_calm_2 rfl rfl ?_
  refine aw_callVR (pc := 3) (As := [.int a1]) hC mb_X10_isGuest kw1535 (by decide) (c_X10_isGuest G C.2.1   μ a1) (v0 (j := 12) (by decide)) rfl rfl rfl (Nat.le_of_ble_eq_true rfl) dX10_calm_3 (fun q1 => ?_)
  refine aw_nmJ (fun (J14 : Int32 → Option (Int32 × Mem)) => ∀ (x2 : Int32), AW G C (qI G C 0 0) 0 0 3 μ 14 [some (.ref (gad G 0 12)), some (.int a1), none] [.int x2, .ref (gad G 0 12)] (J14 x2)) (fun x2 => ?_) (fun J14 hJ14 => ?_)
  · skip
    refine aw_putIN (pc := 14) hC inX10 (v0 (j := 12) (by decide)) rfl rfl 0 (by decide) kw1314 rfl tyX10 tyX10_ok nmX10 rfl rfl (Nat.le_of_ble_eq_true rfl) rfl dX10_calm_14 (fun μ3 => ?_)
    refine aw_aload_n (pc := 17) (i := 0) hC dX10_calm_17 rfl rfl ?_
    refine aw_get (pc := 18) hC inX10 (v0 (j := 12) (by decide)) rfl rfl 0 (by decide) kw1314 rfl rfl dX10_calm_18 ?_
    refine aw_if_le (pc := 21) (tgt := 26) hC dX10_calm_21 (by decide) (fun _ => ?_) (fun _ => ?_)
    · skip
      refine aw_aload_n (pc := 26) (i := 0) hC dX10_calm_26 rfl rfl ?_
      refine aw_bipush (pc := 27) (v := 24) hC dX10_calm_27 bc24 ?_
      refine aw_iconst (pc := 29) (v := 5) hC dX10_calm_29 ic5 ?_
      refine aw_iload_n (pc := 30) (i := 1) hC dX10_calm_30 rfl rfl ?_
      refine aw_imul (pc := 31) hC dX10_calm_31 ?_
      refine aw_iadd (pc := 32) hC dX10_calm_32 ?_
      refine aw_iconst (pc := 33) (v := 2) hC dX10_calm_33 ic2 ?_
      refine aw_iadd (pc := 34) hC dX10_calm_34 ?_
      refine aw_aload_n (pc := 35) (i := 0) hC dX10_calm_35 rfl rfl ?_
      refine aw_iload_n (pc := 36) (i := 1) hC dX10_calm_36 rfl rfl ?_
      refine aw_iconst (pc := 37) (v := 2) hC dX10_calm_37 ic2 ?_
      refine aw_callVR (pc := 38) (As := [.int a1, .int 2]) hC mb_X10_of kw1539 (by decide) (c_X10_of G C.2.1   μ3 a1 2) (v0 (j := 12) (by decide)) rfl rfl rfl (Nat.le_of_ble_eq_true rfl) dX10_calm_38 (fun q4 => ?_)
      refine aw_iconst (pc := 41) (v := 2) hC dX10_calm_41 ic2 ?_
      refine aw_idiv (pc := 42) hC dX10_calm_42 (by decide) ?_
      refine aw_callVI (pc := 43) (As := [.int ((24 + (5 * a1)) + 2), .int (q4 / 2)]) hC mb_X10_sets kw1612 (by decide) (c_X10_sets G C.2.1   μ3 ((24 + (5 * a1)) + 2) (q4 / 2)) (v0 (j := 12) (by decide)) rfl rfl rfl (Nat.le_of_ble_eq_true rfl) dX10_calm_43 (fun q5 => ?_)
      refine aw_istore_n (pc := 46) (i := 2) hC dX10_calm_46 rfl rfl (by decide) ?_
      refine aw_aload_n (pc := 47) (i := 0) hC dX10_calm_47 rfl rfl ?_
      refine aw_iload_n (pc := 48) (i := 1) hC dX10_calm_48 rfl rfl ?_
      refine aw_iconst (pc := 49) (v := 2) hC dX10_calm_49 ic2 ?_
      refine aw_callVR (pc := 50) (As := [.int a1, .int 2]) hC mb_X10_of kw1539 (by decide) (c_X10_of G C.2.1   q5.2 a1 2) (v0 (j := 12) (by decide)) rfl rfl rfl (Nat.le_of_ble_eq_true rfl) dX10_calm_50 (fun q6 => ?_)
      exact aw_iret hC dX10_calm_53
    · skip
      refine aw_iconst (pc := 24) (v := 0) hC dX10_calm_24 ic0 ?_
      exact aw_iret hC dX10_calm_25
  · skip
    refine aw_if_ne (pc := 6) (tgt := 13) hC dX10_calm_6 (by decide) (fun _ => ?_) (fun _ => ?_)
    · skip
      refine aw_iconst (pc := 9) (v := 1) hC dX10_calm_9 ic1 ?_
      refine aw_goto (pc := 10) (tgt := 14) hC dX10_calm_10 (by decide) ?_
      exact hJ14 1
    · skip
      refine aw_iconst (pc := 13) (v := 0) hC dX10_calm_13 ic0 ?_
      exact hJ14 0
theorem dX10_draw_0 : decode cX10_draw 0 = .ok (.aload_n 0, 1) := by decide +kernel
theorem dX10_draw_1 : decode cX10_draw 1 = .ok (.getfield 7, 3) := by decide +kernel
theorem dX10_draw_4 : decode cX10_draw 4 = .ok (.bipush 15, 2) := by decide +kernel
theorem dX10_draw_6 : decode cX10_draw 6 = .ok (.ldc 242, 2) := by decide +kernel
theorem dX10_draw_8 : decode cX10_draw 8 = .ok (.aload_n 0, 1) := by decide +kernel
theorem dX10_draw_9 : decode cX10_draw 9 = .ok (.getfield 7, 3) := by decide +kernel
theorem dX10_draw_12 : decode cX10_draw 12 = .ok (.bipush 15, 2) := by decide +kernel
theorem dX10_draw_14 : decode cX10_draw 14 = .ok (.iaload, 1) := by decide +kernel
theorem dX10_draw_15 : decode cX10_draw 15 = .ok (.imul, 1) := by decide +kernel
theorem dX10_draw_16 : decode cX10_draw 16 = .ok (.sipush 12345, 3) := by decide +kernel
theorem dX10_draw_19 : decode cX10_draw 19 = .ok (.iadd, 1) := by decide +kernel
theorem dX10_draw_20 : decode cX10_draw 20 = .ok (.iastore, 1) := by decide +kernel
theorem dX10_draw_21 : decode cX10_draw 21 = .ok (.aload_n 0, 1) := by decide +kernel
theorem dX10_draw_22 : decode cX10_draw 22 = .ok (.getfield 7, 3) := by decide +kernel
theorem dX10_draw_25 : decode cX10_draw 25 = .ok (.bipush 15, 2) := by decide +kernel
theorem dX10_draw_27 : decode cX10_draw 27 = .ok (.iaload, 1) := by decide +kernel
theorem dX10_draw_28 : decode cX10_draw 28 = .ok (.bipush 16, 2) := by decide +kernel
theorem dX10_draw_30 : decode cX10_draw 30 = .ok (.iushr, 1) := by decide +kernel
theorem dX10_draw_31 : decode cX10_draw 31 = .ok (.sipush 32767, 3) := by decide +kernel
theorem dX10_draw_34 : decode cX10_draw 34 = .ok (.iand, 1) := by decide +kernel
theorem dX10_draw_35 : decode cX10_draw 35 = .ok (.iload_n 1, 1) := by decide +kernel
theorem dX10_draw_36 : decode cX10_draw 36 = .ok (.irem, 1) := by decide +kernel
theorem dX10_draw_37 : decode cX10_draw 37 = .ok (.ireturn, 1) := by decide +kernel
def f_X10_draw (μ : Mem) (a1 : Int32) : Option (Int32 × Mem) := ix 15 704 (ix 15 704 (nm (upm μ 0 13 (Int32.toNatClampNeg 15) ((1103515245 * (μ 0 13 (Int32.toNatClampNeg 15))) + 12345)) fun (μ1 : Mem) => ix 15 704 (nz a1 (some ((jrem ((jushr (μ1 0 13 (Int32.toNatClampNeg 15)) 16) &&& 32767) a1), μ1)))))
set_option maxHeartbeats 4000000 in
set_option maxRecDepth 100000 in
theorem c_X10_draw (G : GG) (l : Launch) (μ : Mem) (a1 : Int32) : CI G l yX10_draw (.code yX10_draw cX10_draw 2 (some .int)) 1 [.ref (gad G 0 12), .int a1] μ (f_X10_draw μ a1) := by
  refine CI.of (own := "SaturdayKeepModel") (L0 := [some (.ref (gad G 0 12)), some (.int a1)]) rfl rfl rfl (Nat.le_of_ble_eq_true rfl) (fun C hl hC => ?_)
  subst hl
  delta f_X10_draw
  refine aw_aload_n (pc := 0) (i := 0) hC dX10_draw_0 rfl rfl ?_
  refine aw_get (pc := 1) hC inX10 (v0 (j := 12) (by decide)) rfl rfl 1 (by decide) kw1315 rfl rfl dX10_draw_1 ?_
  refine aw_bipush (pc := 4) (v := 15) hC dX10_draw_4 bc15 ?_
  refine aw_ldc (pc := 6) hC kw1670 dX10_draw_6 ?_
  refine aw_aload_n (pc := 8) (i := 0) hC dX10_draw_8 rfl rfl ?_
  refine aw_get (pc := 9) hC inX10 (v0 (j := 12) (by decide)) rfl rfl 1 (by decide) kw1315 rfl rfl dX10_draw_9 ?_
  refine aw_bipush (pc := 12) (v := 15) hC dX10_draw_12 bc15 ?_
  refine aw_iaload (pc := 14) hC (v0 (j := 13) (by decide)) rfl dX10_draw_14 ?_
  refine aw_imul (pc := 15) hC dX10_draw_15 ?_
  refine aw_sipush (pc := 16) (v := 12345) hC dX10_draw_16 sc12345 ?_
  refine aw_iadd (pc := 19) hC dX10_draw_19 ?_
  refine aw_iastoreN (pc := 20) hC (v0 (j := 13) (by decide)) (fun _ => rfl) dX10_draw_20 (fun μ1 => ?_)
  refine aw_aload_n (pc := 21) (i := 0) hC dX10_draw_21 rfl rfl ?_
  refine aw_get (pc := 22) hC inX10 (v0 (j := 12) (by decide)) rfl rfl 1 (by decide) kw1315 rfl rfl dX10_draw_22 ?_
  refine aw_bipush (pc := 25) (v := 15) hC dX10_draw_25 bc15 ?_
  refine aw_iaload (pc := 27) hC (v0 (j := 13) (by decide)) rfl dX10_draw_27 ?_
  refine aw_bipush (pc := 28) (v := 16) hC dX10_draw_28 bc16 ?_
  refine aw_iushr (pc := 30) hC dX10_draw_30 ?_
  refine aw_sipush (pc := 31) (v := 32767) hC dX10_draw_31 sc32767 ?_
  refine aw_iand (pc := 34) hC dX10_draw_34 ?_
  refine aw_iload_n (pc := 35) (i := 1) hC dX10_draw_35 rfl rfl ?_
  refine aw_iremZ (pc := 36) hC dX10_draw_36 ?_
  exact aw_iret hC dX10_draw_37
theorem dX10_looks_0 : decode cX10_looks 0 = .ok (.sipush 239, 3) := by decide +kernel
theorem dX10_looks_3 : decode cX10_looks 3 = .ok (.istore_n 2, 1) := by decide +kernel
theorem dX10_looks_4 : decode cX10_looks 4 = .ok (.iload_n 2, 1) := by decide +kernel
theorem dX10_looks_5 : decode cX10_looks 5 = .ok (.iconst 4, 1) := by decide +kernel
theorem dX10_looks_6 : decode cX10_looks 6 = .ok (.if_icmp .lt 29, 3) := by decide +kernel
theorem dX10_looks_9 : decode cX10_looks 9 = .ok (.aload_n 0, 1) := by decide +kernel
theorem dX10_looks_10 : decode cX10_looks 10 = .ok (.getfield 7, 3) := by decide +kernel
theorem dX10_looks_13 : decode cX10_looks 13 = .ok (.bipush 64, 2) := by decide +kernel
theorem dX10_looks_15 : decode cX10_looks 15 = .ok (.iload_n 2, 1) := by decide +kernel
theorem dX10_looks_16 : decode cX10_looks 16 = .ok (.iadd, 1) := by decide +kernel
theorem dX10_looks_17 : decode cX10_looks 17 = .ok (.aload_n 0, 1) := by decide +kernel
theorem dX10_looks_18 : decode cX10_looks 18 = .ok (.getfield 7, 3) := by decide +kernel
theorem dX10_looks_21 : decode cX10_looks 21 = .ok (.bipush 64, 2) := by decide +kernel
theorem dX10_looks_23 : decode cX10_looks 23 = .ok (.iload_n 2, 1) := by decide +kernel
theorem dX10_looks_24 : decode cX10_looks 24 = .ok (.iadd, 1) := by decide +kernel
theorem dX10_looks_25 : decode cX10_looks 25 = .ok (.iconst 4, 1) := by decide +kernel
theorem dX10_looks_26 : decode cX10_looks 26 = .ok (.isub, 1) := by decide +kernel
theorem dX10_looks_27 : decode cX10_looks 27 = .ok (.iaload, 1) := by decide +kernel
theorem dX10_looks_28 : decode cX10_looks 28 = .ok (.iastore, 1) := by decide +kernel
theorem dX10_looks_29 : decode cX10_looks 29 = .ok (.iinc 2 (-1), 3) := by decide +kernel
theorem dX10_looks_32 : decode cX10_looks 32 = .ok (.goto (-28), 3) := by decide +kernel
theorem dX10_looks_35 : decode cX10_looks 35 = .ok (.aload_n 0, 1) := by decide +kernel
theorem dX10_looks_36 : decode cX10_looks 36 = .ok (.getfield 7, 3) := by decide +kernel
theorem dX10_looks_39 : decode cX10_looks 39 = .ok (.bipush 64, 2) := by decide +kernel
theorem dX10_looks_41 : decode cX10_looks 41 = .ok (.aload_n 0, 1) := by decide +kernel
theorem dX10_looks_42 : decode cX10_looks 42 = .ok (.getfield 7, 3) := by decide +kernel
theorem dX10_looks_45 : decode cX10_looks 45 = .ok (.bipush 10, 2) := by decide +kernel
theorem dX10_looks_47 : decode cX10_looks 47 = .ok (.iaload, 1) := by decide +kernel
theorem dX10_looks_48 : decode cX10_looks 48 = .ok (.iastore, 1) := by decide +kernel
theorem dX10_looks_49 : decode cX10_looks 49 = .ok (.aload_n 0, 1) := by decide +kernel
theorem dX10_looks_50 : decode cX10_looks 50 = .ok (.getfield 7, 3) := by decide +kernel
theorem dX10_looks_53 : decode cX10_looks 53 = .ok (.bipush 65, 2) := by decide +kernel
theorem dX10_looks_55 : decode cX10_looks 55 = .ok (.iload_n 1, 1) := by decide +kernel
theorem dX10_looks_56 : decode cX10_looks 56 = .ok (.iastore, 1) := by decide +kernel
theorem dX10_looks_57 : decode cX10_looks 57 = .ok (.aload_n 0, 1) := by decide +kernel
theorem dX10_looks_58 : decode cX10_looks 58 = .ok (.getfield 7, 3) := by decide +kernel
theorem dX10_looks_61 : decode cX10_looks 61 = .ok (.bipush 66, 2) := by decide +kernel
theorem dX10_looks_63 : decode cX10_looks 63 = .ok (.aload_n 0, 1) := by decide +kernel
theorem dX10_looks_64 : decode cX10_looks 64 = .ok (.iload_n 1, 1) := by decide +kernel
theorem dX10_looks_65 : decode cX10_looks 65 = .ok (.iconst 0, 1) := by decide +kernel
theorem dX10_looks_66 : decode cX10_looks 66 = .ok (.invokevirtual 49, 3) := by decide +kernel
theorem dX10_looks_69 : decode cX10_looks 69 = .ok (.iastore, 1) := by decide +kernel
theorem dX10_looks_70 : decode cX10_looks 70 = .ok (.aload_n 0, 1) := by decide +kernel
theorem dX10_looks_71 : decode cX10_looks 71 = .ok (.getfield 7, 3) := by decide +kernel
theorem dX10_looks_74 : decode cX10_looks 74 = .ok (.bipush 67, 2) := by decide +kernel
theorem dX10_looks_76 : decode cX10_looks 76 = .ok (.aload_n 0, 1) := by decide +kernel
theorem dX10_looks_77 : decode cX10_looks 77 = .ok (.getfield 7, 3) := by decide +kernel
theorem dX10_looks_80 : decode cX10_looks 80 = .ok (.iconst 4, 1) := by decide +kernel
theorem dX10_looks_81 : decode cX10_looks 81 = .ok (.iaload, 1) := by decide +kernel
theorem dX10_looks_82 : decode cX10_looks 82 = .ok (.iastore, 1) := by decide +kernel
theorem dX10_looks_83 : decode cX10_looks 83 = .ok (.aload_n 0, 1) := by decide +kernel
theorem dX10_looks_84 : decode cX10_looks 84 = .ok (.getfield 7, 3) := by decide +kernel
theorem dX10_looks_87 : decode cX10_looks 87 = .ok (.bipush 14, 2) := by decide +kernel
theorem dX10_looks_89 : decode cX10_looks 89 = .ok (.bipush 60, 2) := by decide +kernel
theorem dX10_looks_91 : decode cX10_looks 91 = .ok (.aload_n 0, 1) := by decide +kernel
theorem dX10_looks_92 : decode cX10_looks 92 = .ok (.getfield 7, 3) := by decide +kernel
theorem dX10_looks_95 : decode cX10_looks 95 = .ok (.bipush 14, 2) := by decide +kernel
theorem dX10_looks_97 : decode cX10_looks 97 = .ok (.iaload, 1) := by decide +kernel
theorem dX10_looks_98 : decode cX10_looks 98 = .ok (.iconst 1, 1) := by decide +kernel
theorem dX10_looks_99 : decode cX10_looks 99 = .ok (.iadd, 1) := by decide +kernel
theorem dX10_looks_100 : decode cX10_looks 100 = .ok (.invokestatic 243, 3) := by decide +kernel
theorem dX10_looks_103 : decode cX10_looks 103 = .ok (.iastore, 1) := by decide +kernel
theorem dX10_looks_104 : decode cX10_looks 104 = .ok (.aload_n 0, 1) := by decide +kernel
theorem dX10_looks_105 : decode cX10_looks 105 = .ok (.getfield 7, 3) := by decide +kernel
theorem dX10_looks_108 : decode cX10_looks 108 = .ok (.bipush 11, 2) := by decide +kernel
theorem dX10_looks_110 : decode cX10_looks 110 = .ok (.dup2, 1) := by decide +kernel
theorem dX10_looks_111 : decode cX10_looks 111 = .ok (.iaload, 1) := by decide +kernel
theorem dX10_looks_112 : decode cX10_looks 112 = .ok (.iconst 1, 1) := by decide +kernel
theorem dX10_looks_113 : decode cX10_looks 113 = .ok (.iadd, 1) := by decide +kernel
theorem dX10_looks_114 : decode cX10_looks 114 = .ok (.iastore, 1) := by decide +kernel
theorem dX10_looks_115 : decode cX10_looks 115 = .ok (.aload_n 0, 1) := by decide +kernel
theorem dX10_looks_116 : decode cX10_looks 116 = .ok (.iload_n 1, 1) := by decide +kernel
theorem dX10_looks_117 : decode cX10_looks 117 = .ok (.iconst 2, 1) := by decide +kernel
theorem dX10_looks_118 : decode cX10_looks 118 = .ok (.bipush 99, 2) := by decide +kernel
theorem dX10_looks_120 : decode cX10_looks 120 = .ok (.invokevirtual 114, 3) := by decide +kernel
theorem dX10_looks_123 : decode cX10_looks 123 = .ok (.return_, 1) := by decide +kernel
def lp_X10_looks_4 (k35 : Mem → Option (Mem)) : Nat → Int32 → Mem → Option (Mem)
  | 0, _, _ => none
  | n + 1, x2, μ3 => if x2 < 4 then (k35 μ3) else (ix ((64 + x2) - 4) 704 (ix (64 + x2) 704 (nm (upm μ3 0 13 (64 + x2).toNatClampNeg (μ3 0 13 ((64 + x2) - 4).toNatClampNeg)) fun (μ4 : Mem) => lp_X10_looks_4 k35 n (x2 + (-1)) μ4)))
def f_X10_looks (μ : Mem) (a1 : Int32) : Option (Mem) := lp_X10_looks_4 (fun (μ1 : Mem) => ix 10 704 (ix 64 704 (nm (upm μ1 0 13 (Int32.toNatClampNeg 64) (μ1 0 13 (Int32.toNatClampNeg 10))) fun (μ5 : Mem) => ix 65 704 (nm (upm μ5 0 13 (Int32.toNatClampNeg 65) a1) fun (μ6 : Mem) => (f_X10_of μ6 a1 0).bind fun (q7 : Int32) => ix 66 704 (nm (upm μ6 0 13 (Int32.toNatClampNeg 66) q7) fun (μ8 : Mem) => ix 4 704 (ix 67 704 (nm (upm μ8 0 13 (Int32.toNatClampNeg 67) (μ8 0 13 (Int32.toNatClampNeg 4))) fun (μ9 : Mem) => ix 14 704 ((f_X10_lesser 60 ((μ9 0 13 (Int32.toNatClampNeg 14)) + 1)).bind fun (q10 : Int32) => ix 14 704 (nm (upm μ9 0 13 (Int32.toNatClampNeg 14) q10) fun (μ11 : Mem) => ix 11 704 (ix 11 704 (nm (upm μ11 0 13 (Int32.toNatClampNeg 11) ((μ11 0 13 (Int32.toNatClampNeg 11)) + 1)) fun (μ12 : Mem) => (f_X10_put μ12 a1 2 99).bind fun (q13 : Mem) => some q13))))))))))) 4096 239 μ
set_option maxHeartbeats 4000000 in
set_option maxRecDepth 100000 in
theorem c_X10_looks (G : GG) (l : Launch) (μ : Mem) (a1 : Int32) : CV G l yX10_looks (.code yX10_looks cX10_looks 3 none) 2 [.ref (gad G 0 12), .int a1] μ (f_X10_looks μ a1) := by
  refine CV.of (own := "SaturdayKeepModel") (L0 := [some (.ref (gad G 0 12)), some (.int a1), none]) rfl rfl rfl (Nat.le_of_ble_eq_true rfl) (fun C hl hC => ?_)
  subst hl
  delta f_X10_looks
  refine aw_sipush (pc := 0) (v := 239) hC dX10_looks_0 sc239 ?_
  refine aw_istore_n (pc := 3) (i := 2) hC dX10_looks_3 rfl rfl (by decide) ?_
  have hL4 : ∀ (k35 : Mem → Option (Mem)) (hk35 : ∀ (μ1 : Mem), AW G C (qV G C 0 0) 0 0 3 μ1 35 [some (.ref (gad G 0 12)), some (.int a1), none] [] (k35 μ1)) (n : Nat) (x2 : Int32) (μ3 : Mem), AW G C (qV G C 0 0) 0 0 3 μ3 4 [some (.ref (gad G 0 12)), some (.int a1), some (.int x2)] [] (lp_X10_looks_4 k35 n x2 μ3) := by
    intro k35 hk35 n
    induction n with
    | zero => intro x2 μ3; exact aw_none
    | succ n ih =>
      intro x2 μ3
      rw [lp_X10_looks_4]
      refine aw_iload_n (pc := 4) (i := 2) hC dX10_looks_4 rfl rfl ?_
      refine aw_iconst (pc := 5) (v := 4) hC dX10_looks_5 ic4 ?_
      refine aw_icmp_lt (pc := 6) (tgt := 35) hC dX10_looks_6 (by decide) (fun _ => ?_) (fun _ => ?_)
      · skip
        exact aw_drop [2] (hk35 μ3)
      · skip
        refine aw_aload_n (pc := 9) (i := 0) hC dX10_looks_9 rfl rfl ?_
        refine aw_get (pc := 10) hC inX10 (v0 (j := 12) (by decide)) rfl rfl 1 (by decide) kw1315 rfl rfl dX10_looks_10 ?_
        refine aw_bipush (pc := 13) (v := 64) hC dX10_looks_13 bc64 ?_
        refine aw_iload_n (pc := 15) (i := 2) hC dX10_looks_15 rfl rfl ?_
        refine aw_iadd (pc := 16) hC dX10_looks_16 ?_
        refine aw_aload_n (pc := 17) (i := 0) hC dX10_looks_17 rfl rfl ?_
        refine aw_get (pc := 18) hC inX10 (v0 (j := 12) (by decide)) rfl rfl 1 (by decide) kw1315 rfl rfl dX10_looks_18 ?_
        refine aw_bipush (pc := 21) (v := 64) hC dX10_looks_21 bc64 ?_
        refine aw_iload_n (pc := 23) (i := 2) hC dX10_looks_23 rfl rfl ?_
        refine aw_iadd (pc := 24) hC dX10_looks_24 ?_
        refine aw_iconst (pc := 25) (v := 4) hC dX10_looks_25 ic4 ?_
        refine aw_isub (pc := 26) hC dX10_looks_26 ?_
        refine aw_iaload (pc := 27) hC (v0 (j := 13) (by decide)) rfl dX10_looks_27 ?_
        refine aw_iastoreN (pc := 28) hC (v0 (j := 13) (by decide)) (fun _ => rfl) dX10_looks_28 (fun μ4 => ?_)
        refine aw_iinc (pc := 29) (v := x2 + (-1)) hC dX10_looks_29 rfl (congrArg (HAdd.hAdd _) icm1) rfl (by decide) ?_
        refine aw_goto (pc := 32) (tgt := 4) hC dX10_looks_32 (by decide) ?_
        exact ih (x2 + (-1)) μ4
  refine hL4 (fun (μ1 : Mem) => ix 10 704 (ix 64 704 (nm (upm μ1 0 13 (Int32.toNatClampNeg 64) (μ1 0 13 (Int32.toNatClampNeg 10))) fun (μ5 : Mem) => ix 65 704 (nm (upm μ5 0 13 (Int32.toNatClampNeg 65) a1) fun (μ6 : Mem) => (f_X10_of μ6 a1 0).bind fun (q7 : Int32) => ix 66 704 (nm (upm μ6 0 13 (Int32.toNatClampNeg 66) q7) fun (μ8 : Mem) => ix 4 704 (ix 67 704 (nm (upm μ8 0 13 (Int32.toNatClampNeg 67) (μ8 0 13 (Int32.toNatClampNeg 4))) fun (μ9 : Mem) => ix 14 704 ((f_X10_lesser 60 ((μ9 0 13 (Int32.toNatClampNeg 14)) + 1)).bind fun (q10 : Int32) => ix 14 704 (nm (upm μ9 0 13 (Int32.toNatClampNeg 14) q10) fun (μ11 : Mem) => ix 11 704 (ix 11 704 (nm (upm μ11 0 13 (Int32.toNatClampNeg 11) ((μ11 0 13 (Int32.toNatClampNeg 11)) + 1)) fun (μ12 : Mem) => (f_X10_put μ12 a1 2 99).bind fun (q13 : Mem) => some q13))))))))))) (fun μ1 => ?_) 4096 239 μ
  · skip
    refine aw_aload_n (pc := 35) (i := 0) hC dX10_looks_35 rfl rfl ?_
    refine aw_get (pc := 36) hC inX10 (v0 (j := 12) (by decide)) rfl rfl 1 (by decide) kw1315 rfl rfl dX10_looks_36 ?_
    refine aw_bipush (pc := 39) (v := 64) hC dX10_looks_39 bc64 ?_
    refine aw_aload_n (pc := 41) (i := 0) hC dX10_looks_41 rfl rfl ?_
    refine aw_get (pc := 42) hC inX10 (v0 (j := 12) (by decide)) rfl rfl 1 (by decide) kw1315 rfl rfl dX10_looks_42 ?_
    refine aw_bipush (pc := 45) (v := 10) hC dX10_looks_45 bc10 ?_
    refine aw_iaload (pc := 47) hC (v0 (j := 13) (by decide)) rfl dX10_looks_47 ?_
    refine aw_iastoreN (pc := 48) hC (v0 (j := 13) (by decide)) (fun _ => rfl) dX10_looks_48 (fun μ5 => ?_)
    refine aw_aload_n (pc := 49) (i := 0) hC dX10_looks_49 rfl rfl ?_
    refine aw_get (pc := 50) hC inX10 (v0 (j := 12) (by decide)) rfl rfl 1 (by decide) kw1315 rfl rfl dX10_looks_50 ?_
    refine aw_bipush (pc := 53) (v := 65) hC dX10_looks_53 bc65 ?_
    refine aw_iload_n (pc := 55) (i := 1) hC dX10_looks_55 rfl rfl ?_
    refine aw_iastoreN (pc := 56) hC (v0 (j := 13) (by decide)) (fun _ => rfl) dX10_looks_56 (fun μ6 => ?_)
    refine aw_aload_n (pc := 57) (i := 0) hC dX10_looks_57 rfl rfl ?_
    refine aw_get (pc := 58) hC inX10 (v0 (j := 12) (by decide)) rfl rfl 1 (by decide) kw1315 rfl rfl dX10_looks_58 ?_
    refine aw_bipush (pc := 61) (v := 66) hC dX10_looks_61 bc66 ?_
    refine aw_aload_n (pc := 63) (i := 0) hC dX10_looks_63 rfl rfl ?_
    refine aw_iload_n (pc := 64) (i := 1) hC dX10_looks_64 rfl rfl ?_
    refine aw_iconst (pc := 65) (v := 0) hC dX10_looks_65 ic0 ?_
    refine aw_callVR (pc := 66) (As := [.int a1, .int 0]) hC mb_X10_of kw1539 (by decide) (c_X10_of G C.2.1   μ6 a1 0) (v0 (j := 12) (by decide)) rfl rfl rfl (Nat.le_of_ble_eq_true rfl) dX10_looks_66 (fun q7 => ?_)
    refine aw_iastoreN (pc := 69) hC (v0 (j := 13) (by decide)) (fun _ => rfl) dX10_looks_69 (fun μ8 => ?_)
    refine aw_aload_n (pc := 70) (i := 0) hC dX10_looks_70 rfl rfl ?_
    refine aw_get (pc := 71) hC inX10 (v0 (j := 12) (by decide)) rfl rfl 1 (by decide) kw1315 rfl rfl dX10_looks_71 ?_
    refine aw_bipush (pc := 74) (v := 67) hC dX10_looks_74 bc67 ?_
    refine aw_aload_n (pc := 76) (i := 0) hC dX10_looks_76 rfl rfl ?_
    refine aw_get (pc := 77) hC inX10 (v0 (j := 12) (by decide)) rfl rfl 1 (by decide) kw1315 rfl rfl dX10_looks_77 ?_
    refine aw_iconst (pc := 80) (v := 4) hC dX10_looks_80 ic4 ?_
    refine aw_iaload (pc := 81) hC (v0 (j := 13) (by decide)) rfl dX10_looks_81 ?_
    refine aw_iastoreN (pc := 82) hC (v0 (j := 13) (by decide)) (fun _ => rfl) dX10_looks_82 (fun μ9 => ?_)
    refine aw_aload_n (pc := 83) (i := 0) hC dX10_looks_83 rfl rfl ?_
    refine aw_get (pc := 84) hC inX10 (v0 (j := 12) (by decide)) rfl rfl 1 (by decide) kw1315 rfl rfl dX10_looks_84 ?_
    refine aw_bipush (pc := 87) (v := 14) hC dX10_looks_87 bc14 ?_
    refine aw_bipush (pc := 89) (v := 60) hC dX10_looks_89 bc60 ?_
    refine aw_aload_n (pc := 91) (i := 0) hC dX10_looks_91 rfl rfl ?_
    refine aw_get (pc := 92) hC inX10 (v0 (j := 12) (by decide)) rfl rfl 1 (by decide) kw1315 rfl rfl dX10_looks_92 ?_
    refine aw_bipush (pc := 95) (v := 14) hC dX10_looks_95 bc14 ?_
    refine aw_iaload (pc := 97) hC (v0 (j := 13) (by decide)) rfl dX10_looks_97 ?_
    refine aw_iconst (pc := 98) (v := 1) hC dX10_looks_98 ic1 ?_
    refine aw_iadd (pc := 99) hC dX10_looks_99 ?_
    refine aw_callSR (pc := 100) (As := [.int 60, .int ((μ9 0 13 (Int32.toNatClampNeg 14)) + 1)]) hC ms_X10_lesser kw1648 (by decide) (c_X10_lesser G C.2.1   μ9 60 ((μ9 0 13 (Int32.toNatClampNeg 14)) + 1)) rfl (Nat.le_of_ble_eq_true rfl) dX10_looks_100 (fun q10 => ?_)
    refine aw_iastoreN (pc := 103) hC (v0 (j := 13) (by decide)) (fun _ => rfl) dX10_looks_103 (fun μ11 => ?_)
    refine aw_aload_n (pc := 104) (i := 0) hC dX10_looks_104 rfl rfl ?_
    refine aw_get (pc := 105) hC inX10 (v0 (j := 12) (by decide)) rfl rfl 1 (by decide) kw1315 rfl rfl dX10_looks_105 ?_
    refine aw_bipush (pc := 108) (v := 11) hC dX10_looks_108 bc11 ?_
    refine aw_dup2 (pc := 110) hC dX10_looks_110 rfl rfl ?_
    refine aw_iaload (pc := 111) hC (v0 (j := 13) (by decide)) rfl dX10_looks_111 ?_
    refine aw_iconst (pc := 112) (v := 1) hC dX10_looks_112 ic1 ?_
    refine aw_iadd (pc := 113) hC dX10_looks_113 ?_
    refine aw_iastoreN (pc := 114) hC (v0 (j := 13) (by decide)) (fun _ => rfl) dX10_looks_114 (fun μ12 => ?_)
    refine aw_aload_n (pc := 115) (i := 0) hC dX10_looks_115 rfl rfl ?_
    refine aw_iload_n (pc := 116) (i := 1) hC dX10_looks_116 rfl rfl ?_
    refine aw_iconst (pc := 117) (v := 2) hC dX10_looks_117 ic2 ?_
    refine aw_bipush (pc := 118) (v := 99) hC dX10_looks_118 bc99 ?_
    refine aw_callVV (pc := 120) (As := [.int a1, .int 2, .int 99]) hC mb_X10_put kw1499 (by decide) (c_X10_put G C.2.1   μ12 a1 2 99) (v0 (j := 12) (by decide)) rfl rfl rfl (Nat.le_of_ble_eq_true rfl) dX10_looks_120 (fun q13 => ?_)
    exact aw_vret hC dX10_looks_123
