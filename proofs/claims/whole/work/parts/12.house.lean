theorem aw_aaloadHb {τ : Type} {G : GG} {C : CX} {own : String} {cc : ByteArray} {nL lvl kc ks : Nat} {ret : Option FieldType} {Q : τ → State → Prop} {μ : Mem} {pc : Nat} {L : List (Option Value)} {st : List Value} {E : Option τ} (hC : CO G C own cc nL lvl kc ks ret) {v : Int32} (hd : decode cc pc = .ok (.aaload, 1)) (k : v.toNatClampNeg < 12 → AW G C Q kc ks nL μ (pc + 1) L (.ref (gad G (v.toNatClampNeg + 4) 0) :: st) E) : AW G C Q kc ks nL μ pc L (.int v :: .ref (gad G 0 10) :: st) (ix v 12 E) := by
  intro x hx
  obtain ⟨hi, hx2⟩ := ix_some hx
  exact aw_aaloadH hC hd (k (Nat.not_le.mp fun q => hi (Or.inr q))) x hx
theorem icm8 : Int32.ofInt (-8) = (-8) := by decide +kernel
theorem ic3 : Int32.ofInt 3 = 3 := by decide +kernel
theorem ic5 : Int32.ofInt 5 = 5 := by decide +kernel
theorem bcm20 : (Int8.ofInt (-20)).toInt32 = (-20) := by decide +kernel
theorem bcm3 : (Int8.ofInt (-3)).toInt32 = (-3) := by decide +kernel
theorem bc6 : (Int8.ofInt 6).toInt32 = 6 := by decide +kernel
theorem bc7 : (Int8.ofInt 7).toInt32 = 7 := by decide +kernel
theorem bc9 : (Int8.ofInt 9).toInt32 = 9 := by decide +kernel
theorem bc10 : (Int8.ofInt 10).toInt32 = 10 := by decide +kernel
theorem bc11 : (Int8.ofInt 11).toInt32 = 11 := by decide +kernel
theorem bc12 : (Int8.ofInt 12).toInt32 = 12 := by decide +kernel
theorem bc13 : (Int8.ofInt 13).toInt32 = 13 := by decide +kernel
theorem bc14 : (Int8.ofInt 14).toInt32 = 14 := by decide +kernel
theorem bc15 : (Int8.ofInt 15).toInt32 = 15 := by decide +kernel
theorem bc17 : (Int8.ofInt 17).toInt32 = 17 := by decide +kernel
theorem bc18 : (Int8.ofInt 18).toInt32 = 18 := by decide +kernel
theorem bc20 : (Int8.ofInt 20).toInt32 = 20 := by decide +kernel
theorem bc21 : (Int8.ofInt 21).toInt32 = 21 := by decide +kernel
theorem bc22 : (Int8.ofInt 22).toInt32 = 22 := by decide +kernel
theorem bc23 : (Int8.ofInt 23).toInt32 = 23 := by decide +kernel
theorem bc24 : (Int8.ofInt 24).toInt32 = 24 := by decide +kernel
theorem bc25 : (Int8.ofInt 25).toInt32 = 25 := by decide +kernel
theorem bc26 : (Int8.ofInt 26).toInt32 = 26 := by decide +kernel
theorem bc27 : (Int8.ofInt 27).toInt32 = 27 := by decide +kernel
theorem bc28 : (Int8.ofInt 28).toInt32 = 28 := by decide +kernel
theorem bc29 : (Int8.ofInt 29).toInt32 = 29 := by decide +kernel
theorem bc30 : (Int8.ofInt 30).toInt32 = 30 := by decide +kernel
theorem bc31 : (Int8.ofInt 31).toInt32 = 31 := by decide +kernel
theorem bc33 : (Int8.ofInt 33).toInt32 = 33 := by decide +kernel
theorem bc34 : (Int8.ofInt 34).toInt32 = 34 := by decide +kernel
theorem bc40 : (Int8.ofInt 40).toInt32 = 40 := by decide +kernel
theorem bc41 : (Int8.ofInt 41).toInt32 = 41 := by decide +kernel
theorem bc43 : (Int8.ofInt 43).toInt32 = 43 := by decide +kernel
theorem bc48 : (Int8.ofInt 48).toInt32 = 48 := by decide +kernel
theorem bc51 : (Int8.ofInt 51).toInt32 = 51 := by decide +kernel
theorem bc52 : (Int8.ofInt 52).toInt32 = 52 := by decide +kernel
theorem bc57 : (Int8.ofInt 57).toInt32 = 57 := by decide +kernel
theorem bc59 : (Int8.ofInt 59).toInt32 = 59 := by decide +kernel
theorem bc60 : (Int8.ofInt 60).toInt32 = 60 := by decide +kernel
theorem bc62 : (Int8.ofInt 62).toInt32 = 62 := by decide +kernel
theorem bc64 : (Int8.ofInt 64).toInt32 = 64 := by decide +kernel
theorem bc65 : (Int8.ofInt 65).toInt32 = 65 := by decide +kernel
theorem bc66 : (Int8.ofInt 66).toInt32 = 66 := by decide +kernel
theorem bc67 : (Int8.ofInt 67).toInt32 = 67 := by decide +kernel
theorem bc97 : (Int8.ofInt 97).toInt32 = 97 := by decide +kernel
theorem bc100 : (Int8.ofInt 100).toInt32 = 100 := by decide +kernel
theorem bc122 : (Int8.ofInt 122).toInt32 = 122 := by decide +kernel
theorem sc239 : (Int16.ofInt 239).toInt32 = 239 := by decide +kernel
theorem sc256 : (Int16.ofInt 256).toInt32 = 256 := by decide +kernel
theorem sc304 : (Int16.ofInt 304).toInt32 = 304 := by decide +kernel
theorem sc704 : (Int16.ofInt 704).toInt32 = 704 := by decide +kernel
theorem sc999 : (Int16.ofInt 999).toInt32 = 999 := by decide +kernel
theorem sc1000 : (Int16.ofInt 1000).toInt32 = 1000 := by decide +kernel
theorem sc1010 : (Int16.ofInt 1010).toInt32 = 1010 := by decide +kernel
theorem sc1011 : (Int16.ofInt 1011).toInt32 = 1011 := by decide +kernel
theorem sc1012 : (Int16.ofInt 1012).toInt32 = 1012 := by decide +kernel
theorem sc1013 : (Int16.ofInt 1013).toInt32 = 1013 := by decide +kernel
theorem sc1014 : (Int16.ofInt 1014).toInt32 = 1014 := by decide +kernel
theorem sc1015 : (Int16.ofInt 1015).toInt32 = 1015 := by decide +kernel
theorem sc1100 : (Int16.ofInt 1100).toInt32 = 1100 := by decide +kernel
theorem sc1200 : (Int16.ofInt 1200).toInt32 = 1200 := by decide +kernel
theorem sc3344 : (Int16.ofInt 3344).toInt32 = 3344 := by decide +kernel
theorem sc12345 : (Int16.ofInt 12345).toInt32 = 12345 := by decide +kernel
theorem sc32767 : (Int16.ofInt 32767).toInt32 = 32767 := by decide +kernel
theorem dX7_putNumber_0 : decode cX7_putNumber 0 = .ok (.bipush 24, 2) := by decide +kernel
theorem dX7_putNumber_2 : decode cX7_putNumber 2 = .ok (.istore_n 2, 1) := by decide +kernel
theorem dX7_putNumber_3 : decode cX7_putNumber 3 = .ok (.iload_n 2, 1) := by decide +kernel
theorem dX7_putNumber_4 : decode cX7_putNumber 4 = .ok (.ifCond .lt 47, 3) := by decide +kernel
theorem dX7_putNumber_7 : decode cX7_putNumber 7 = .ok (.aload_n 0, 1) := by decide +kernel
theorem dX7_putNumber_8 : decode cX7_putNumber 8 = .ok (.getfield 15, 3) := by decide +kernel
theorem dX7_putNumber_11 : decode cX7_putNumber 11 = .ok (.aload_n 0, 1) := by decide +kernel
theorem dX7_putNumber_12 : decode cX7_putNumber 12 = .ok (.getfield 9, 3) := by decide +kernel
theorem dX7_putNumber_15 : decode cX7_putNumber 15 = .ok (.arraylength, 1) := by decide +kernel
theorem dX7_putNumber_16 : decode cX7_putNumber 16 = .ok (.if_icmp .ge 29, 3) := by decide +kernel
theorem dX7_putNumber_19 : decode cX7_putNumber 19 = .ok (.aload_n 0, 1) := by decide +kernel
theorem dX7_putNumber_20 : decode cX7_putNumber 20 = .ok (.getfield 9, 3) := by decide +kernel
theorem dX7_putNumber_23 : decode cX7_putNumber 23 = .ok (.aload_n 0, 1) := by decide +kernel
theorem dX7_putNumber_24 : decode cX7_putNumber 24 = .ok (.getfield 15, 3) := by decide +kernel
theorem dX7_putNumber_27 : decode cX7_putNumber 27 = .ok (.iload_n 1, 1) := by decide +kernel
theorem dX7_putNumber_28 : decode cX7_putNumber 28 = .ok (.iload_n 2, 1) := by decide +kernel
theorem dX7_putNumber_29 : decode cX7_putNumber 29 = .ok (.iushr, 1) := by decide +kernel
theorem dX7_putNumber_30 : decode cX7_putNumber 30 = .ok (.sipush 255, 3) := by decide +kernel
theorem dX7_putNumber_33 : decode cX7_putNumber 33 = .ok (.iand, 1) := by decide +kernel
theorem dX7_putNumber_34 : decode cX7_putNumber 34 = .ok (.iastore, 1) := by decide +kernel
theorem dX7_putNumber_35 : decode cX7_putNumber 35 = .ok (.aload_n 0, 1) := by decide +kernel
theorem dX7_putNumber_36 : decode cX7_putNumber 36 = .ok (.dup, 1) := by decide +kernel
theorem dX7_putNumber_37 : decode cX7_putNumber 37 = .ok (.getfield 15, 3) := by decide +kernel
theorem dX7_putNumber_40 : decode cX7_putNumber 40 = .ok (.iconst 1, 1) := by decide +kernel
theorem dX7_putNumber_41 : decode cX7_putNumber 41 = .ok (.iadd, 1) := by decide +kernel
theorem dX7_putNumber_42 : decode cX7_putNumber 42 = .ok (.putfield 15, 3) := by decide +kernel
theorem dX7_putNumber_45 : decode cX7_putNumber 45 = .ok (.iinc 2 (-8), 3) := by decide +kernel
theorem dX7_putNumber_48 : decode cX7_putNumber 48 = .ok (.goto (-45), 3) := by decide +kernel
theorem dX7_putNumber_51 : decode cX7_putNumber 51 = .ok (.return_, 1) := by decide +kernel
def lp_X7_putNumber_3 (a1 : Int32) : Nat → Int32 → Mem → Option (Mem)
  | 0, _, _ => none
  | n + 1, x1, μ2 => if x1 < 0 then (some μ2) else (if 400 ≤ (μ2 0 1 1) then (lp_X7_putNumber_3 a1 n (x1 + (-8)) μ2) else (ix (μ2 0 1 1) 400 (nm (upm μ2 0 2 (μ2 0 1 1).toNatClampNeg ((jushr a1 x1) &&& 255)) fun (μ3 : Mem) => nm (upm μ3 0 1 1 ((μ3 0 1 1) + 1)) fun (μ4 : Mem) => lp_X7_putNumber_3 a1 n (x1 + (-8)) μ4)))
def f_X7_putNumber (μ : Mem) (a1 : Int32) : Option (Mem) := lp_X7_putNumber_3 a1 4096 24 μ
set_option maxHeartbeats 4000000 in
set_option maxRecDepth 100000 in
theorem c_X7_putNumber (G : GG) (l : Launch) (μ : Mem) (a1 : Int32) : CV G l yX7_putNumber (.code yX7_putNumber cX7_putNumber 3 none) 1 [.ref (gad G 0 1), .int a1] μ (f_X7_putNumber μ a1) := by
  refine CV.of (own := "SaturdayKeep$Tape") (L0 := [some (.ref (gad G 0 1)), some (.int a1), none]) rfl rfl rfl (Nat.le_of_ble_eq_true rfl) (fun C hl hC => ?_)
  subst hl
  delta f_X7_putNumber
  refine aw_bipush (pc := 0) (v := 24) hC dX7_putNumber_0 bc24 ?_
  refine aw_istore_n (pc := 2) (i := 2) hC dX7_putNumber_2 rfl rfl (by decide) ?_
  have hL3 : ∀ (n : Nat) (x1 : Int32) (μ2 : Mem), AW G C (qV G C 0 0) 0 0 3 μ2 3 [some (.ref (gad G 0 1)), some (.int a1), some (.int x1)] [] (lp_X7_putNumber_3 a1 n x1 μ2) := by
    intro n
    induction n with
    | zero => intro x1 μ2; exact aw_none
    | succ n ih =>
      intro x1 μ2
      rw [lp_X7_putNumber_3]
      refine aw_iload_n (pc := 3) (i := 2) hC dX7_putNumber_3 rfl rfl ?_
      refine aw_if_lt (pc := 4) (tgt := 51) hC dX7_putNumber_4 (by decide) (fun _ => ?_) (fun _ => ?_)
      · skip
        exact aw_vret hC dX7_putNumber_51
      · skip
        refine aw_aload_n (pc := 7) (i := 0) hC dX7_putNumber_7 rfl rfl ?_
        refine aw_get (pc := 8) hC inX7 (v0 (j := 1) (by decide)) rfl rfl 1 (by decide) kw43 rfl rfl dX7_putNumber_8 ?_
        refine aw_aload_n (pc := 11) (i := 0) hC dX7_putNumber_11 rfl rfl ?_
        refine aw_get (pc := 12) hC inX7 (v0 (j := 1) (by decide)) rfl rfl 0 (by decide) kw41 rfl rfl dX7_putNumber_12 ?_
        refine aw_alen (pc := 15) (v := 400) hC (v0 (j := 2) (by decide)) rfl (by decide) dX7_putNumber_15 ?_
        refine aw_icmp_ge (pc := 16) (tgt := 45) hC dX7_putNumber_16 (by decide) (fun _ => ?_) (fun _ => ?_)
        · skip
          refine aw_iinc (pc := 45) (v := x1 + (-8)) hC dX7_putNumber_45 rfl (congrArg (HAdd.hAdd _) icm8) rfl (by decide) ?_
          refine aw_goto (pc := 48) (tgt := 3) hC dX7_putNumber_48 (by decide) ?_
          exact ih (x1 + (-8)) μ2
        · skip
          refine aw_aload_n (pc := 19) (i := 0) hC dX7_putNumber_19 rfl rfl ?_
          refine aw_get (pc := 20) hC inX7 (v0 (j := 1) (by decide)) rfl rfl 0 (by decide) kw41 rfl rfl dX7_putNumber_20 ?_
          refine aw_aload_n (pc := 23) (i := 0) hC dX7_putNumber_23 rfl rfl ?_
          refine aw_get (pc := 24) hC inX7 (v0 (j := 1) (by decide)) rfl rfl 1 (by decide) kw43 rfl rfl dX7_putNumber_24 ?_
          refine aw_iload_n (pc := 27) (i := 1) hC dX7_putNumber_27 rfl rfl ?_
          refine aw_iload_n (pc := 28) (i := 2) hC dX7_putNumber_28 rfl rfl ?_
          refine aw_iushr (pc := 29) hC dX7_putNumber_29 ?_
          refine aw_sipush (pc := 30) (v := 255) hC dX7_putNumber_30 sc255 ?_
          refine aw_iand (pc := 33) hC dX7_putNumber_33 ?_
          refine aw_iastoreN (pc := 34) hC (v0 (j := 2) (by decide)) (fun _ => rfl) dX7_putNumber_34 (fun μ3 => ?_)
          refine aw_aload_n (pc := 35) (i := 0) hC dX7_putNumber_35 rfl rfl ?_
          refine aw_dup (pc := 36) hC dX7_putNumber_36 rfl ?_
          refine aw_get (pc := 37) hC inX7 (v0 (j := 1) (by decide)) rfl rfl 1 (by decide) kw43 rfl rfl dX7_putNumber_37 ?_
          refine aw_iconst (pc := 40) (v := 1) hC dX7_putNumber_40 ic1 ?_
          refine aw_iadd (pc := 41) hC dX7_putNumber_41 ?_
          refine aw_putIN (pc := 42) hC inX7 (v0 (j := 1) (by decide)) rfl rfl 1 (by decide) kw43 rfl tyX7 tyX7_ok nmX7 rfl rfl (Nat.le_of_ble_eq_true rfl) rfl dX7_putNumber_42 (fun μ4 => ?_)
          refine aw_iinc (pc := 45) (v := x1 + (-8)) hC dX7_putNumber_45 rfl (congrArg (HAdd.hAdd _) icm8) rfl (by decide) ?_
          refine aw_goto (pc := 48) (tgt := 3) hC dX7_putNumber_48 (by decide) ?_
          exact ih (x1 + (-8)) μ4
  exact hL3 4096 24 μ
theorem dX7_at_0 : decode cX7_at 0 = .ok (.iload_n 1, 1) := by decide +kernel
theorem dX7_at_1 : decode cX7_at 1 = .ok (.ifCond .lt 29, 3) := by decide +kernel
theorem dX7_at_4 : decode cX7_at 4 = .ok (.iload_n 1, 1) := by decide +kernel
theorem dX7_at_5 : decode cX7_at 5 = .ok (.aload_n 0, 1) := by decide +kernel
theorem dX7_at_6 : decode cX7_at 6 = .ok (.getfield 15, 3) := by decide +kernel
theorem dX7_at_9 : decode cX7_at 9 = .ok (.if_icmp .ge 21, 3) := by decide +kernel
theorem dX7_at_12 : decode cX7_at 12 = .ok (.iload_n 1, 1) := by decide +kernel
theorem dX7_at_13 : decode cX7_at 13 = .ok (.aload_n 0, 1) := by decide +kernel
theorem dX7_at_14 : decode cX7_at 14 = .ok (.getfield 9, 3) := by decide +kernel
theorem dX7_at_17 : decode cX7_at 17 = .ok (.arraylength, 1) := by decide +kernel
theorem dX7_at_18 : decode cX7_at 18 = .ok (.if_icmp .ge 12, 3) := by decide +kernel
theorem dX7_at_21 : decode cX7_at 21 = .ok (.aload_n 0, 1) := by decide +kernel
theorem dX7_at_22 : decode cX7_at 22 = .ok (.getfield 9, 3) := by decide +kernel
theorem dX7_at_25 : decode cX7_at 25 = .ok (.iload_n 1, 1) := by decide +kernel
theorem dX7_at_26 : decode cX7_at 26 = .ok (.iaload, 1) := by decide +kernel
theorem dX7_at_27 : decode cX7_at 27 = .ok (.goto 4, 3) := by decide +kernel
theorem dX7_at_30 : decode cX7_at 30 = .ok (.iconst 0, 1) := by decide +kernel
theorem dX7_at_31 : decode cX7_at 31 = .ok (.ireturn, 1) := by decide +kernel
def f_X7_at (μ : Mem) (a1 : Int32) : Option (Int32) := if a1 < 0 then (some 0) else (if (μ 0 1 1) ≤ a1 then (some 0) else (if 400 ≤ a1 then (some 0) else (ix a1 400 (some (μ 0 2 a1.toNatClampNeg)))))
set_option maxHeartbeats 4000000 in
set_option maxRecDepth 100000 in
theorem c_X7_at (G : GG) (l : Launch) (μ : Mem) (a1 : Int32) : CR G l yX7_at (.code yX7_at cX7_at 2 (some .int)) 1 [.ref (gad G 0 1), .int a1] μ (f_X7_at μ a1) := by
  refine CR.of (own := "SaturdayKeep$Tape") (L0 := [some (.ref (gad G 0 1)), some (.int a1)]) rfl rfl rfl (Nat.le_of_ble_eq_true rfl) (fun C hl hC => ?_)
  subst hl
  delta f_X7_at
  refine aw_iload_n (pc := 0) (i := 1) hC dX7_at_0 rfl rfl ?_
  refine aw_if_lt (pc := 1) (tgt := 30) hC dX7_at_1 (by decide) (fun _ => ?_) (fun _ => ?_)
  · skip
    refine aw_iconst (pc := 30) (v := 0) hC dX7_at_30 ic0 ?_
    exact aw_iretR hC dX7_at_31
  · skip
    refine aw_iload_n (pc := 4) (i := 1) hC dX7_at_4 rfl rfl ?_
    refine aw_aload_n (pc := 5) (i := 0) hC dX7_at_5 rfl rfl ?_
    refine aw_get (pc := 6) hC inX7 (v0 (j := 1) (by decide)) rfl rfl 1 (by decide) kw43 rfl rfl dX7_at_6 ?_
    refine aw_icmp_ge (pc := 9) (tgt := 30) hC dX7_at_9 (by decide) (fun _ => ?_) (fun _ => ?_)
    · skip
      refine aw_iconst (pc := 30) (v := 0) hC dX7_at_30 ic0 ?_
      exact aw_iretR hC dX7_at_31
    · skip
      refine aw_iload_n (pc := 12) (i := 1) hC dX7_at_12 rfl rfl ?_
      refine aw_aload_n (pc := 13) (i := 0) hC dX7_at_13 rfl rfl ?_
      refine aw_get (pc := 14) hC inX7 (v0 (j := 1) (by decide)) rfl rfl 0 (by decide) kw41 rfl rfl dX7_at_14 ?_
      refine aw_alen (pc := 17) (v := 400) hC (v0 (j := 2) (by decide)) rfl (by decide) dX7_at_17 ?_
      refine aw_icmp_ge (pc := 18) (tgt := 30) hC dX7_at_18 (by decide) (fun _ => ?_) (fun _ => ?_)
      · skip
        refine aw_iconst (pc := 30) (v := 0) hC dX7_at_30 ic0 ?_
        exact aw_iretR hC dX7_at_31
      · skip
        refine aw_aload_n (pc := 21) (i := 0) hC dX7_at_21 rfl rfl ?_
        refine aw_get (pc := 22) hC inX7 (v0 (j := 1) (by decide)) rfl rfl 0 (by decide) kw41 rfl rfl dX7_at_22 ?_
        refine aw_iload_n (pc := 25) (i := 1) hC dX7_at_25 rfl rfl ?_
        refine aw_iaload (pc := 26) hC (v0 (j := 2) (by decide)) rfl dX7_at_26 ?_
        refine aw_goto (pc := 27) (tgt := 31) hC dX7_at_27 (by decide) ?_
        exact aw_iretR hC dX7_at_31
theorem dX7_isTold_0 : decode cX7_isTold 0 = .ok (.aload_n 0, 1) := by decide +kernel
theorem dX7_isTold_1 : decode cX7_isTold 1 = .ok (.getfield 15, 3) := by decide +kernel
theorem dX7_isTold_4 : decode cX7_isTold 4 = .ok (.bipush 40, 2) := by decide +kernel
theorem dX7_isTold_6 : decode cX7_isTold 6 = .ok (.if_icmp .gt 12, 3) := by decide +kernel
theorem dX7_isTold_9 : decode cX7_isTold 9 = .ok (.aload_n 0, 1) := by decide +kernel
theorem dX7_isTold_10 : decode cX7_isTold 10 = .ok (.getfield 15, 3) := by decide +kernel
theorem dX7_isTold_13 : decode cX7_isTold 13 = .ok (.iconst 2, 1) := by decide +kernel
theorem dX7_isTold_14 : decode cX7_isTold 14 = .ok (.irem, 1) := by decide +kernel
theorem dX7_isTold_15 : decode cX7_isTold 15 = .ok (.ifCond .eq 5, 3) := by decide +kernel
theorem dX7_isTold_18 : decode cX7_isTold 18 = .ok (.iconst 0, 1) := by decide +kernel
theorem dX7_isTold_19 : decode cX7_isTold 19 = .ok (.ireturn, 1) := by decide +kernel
theorem dX7_isTold_20 : decode cX7_isTold 20 = .ok (.iconst 0, 1) := by decide +kernel
theorem dX7_isTold_21 : decode cX7_isTold 21 = .ok (.istore_n 2, 1) := by decide +kernel
theorem dX7_isTold_22 : decode cX7_isTold 22 = .ok (.iload_n 2, 1) := by decide +kernel
theorem dX7_isTold_23 : decode cX7_isTold 23 = .ok (.aload_n 0, 1) := by decide +kernel
theorem dX7_isTold_24 : decode cX7_isTold 24 = .ok (.getfield 15, 3) := by decide +kernel
theorem dX7_isTold_27 : decode cX7_isTold 27 = .ok (.if_icmp .ge 31, 3) := by decide +kernel
theorem dX7_isTold_30 : decode cX7_isTold 30 = .ok (.aload_n 0, 1) := by decide +kernel
theorem dX7_isTold_31 : decode cX7_isTold 31 = .ok (.iload_n 2, 1) := by decide +kernel
theorem dX7_isTold_32 : decode cX7_isTold 32 = .ok (.invokevirtual 19, 3) := by decide +kernel
theorem dX7_isTold_35 : decode cX7_isTold 35 = .ok (.iload_n 1, 1) := by decide +kernel
theorem dX7_isTold_36 : decode cX7_isTold 36 = .ok (.if_icmp .gt 14, 3) := by decide +kernel
theorem dX7_isTold_39 : decode cX7_isTold 39 = .ok (.aload_n 0, 1) := by decide +kernel
theorem dX7_isTold_40 : decode cX7_isTold 40 = .ok (.iload_n 2, 1) := by decide +kernel
theorem dX7_isTold_41 : decode cX7_isTold 41 = .ok (.iconst 1, 1) := by decide +kernel
theorem dX7_isTold_42 : decode cX7_isTold 42 = .ok (.iadd, 1) := by decide +kernel
theorem dX7_isTold_43 : decode cX7_isTold 43 = .ok (.invokevirtual 19, 3) := by decide +kernel
theorem dX7_isTold_46 : decode cX7_isTold 46 = .ok (.iconst 1, 1) := by decide +kernel
theorem dX7_isTold_47 : decode cX7_isTold 47 = .ok (.if_icmp .le 5, 3) := by decide +kernel
theorem dX7_isTold_50 : decode cX7_isTold 50 = .ok (.iconst 0, 1) := by decide +kernel
theorem dX7_isTold_51 : decode cX7_isTold 51 = .ok (.ireturn, 1) := by decide +kernel
theorem dX7_isTold_52 : decode cX7_isTold 52 = .ok (.iinc 2 2, 3) := by decide +kernel
theorem dX7_isTold_55 : decode cX7_isTold 55 = .ok (.goto (-33), 3) := by decide +kernel
theorem dX7_isTold_58 : decode cX7_isTold 58 = .ok (.iconst 1, 1) := by decide +kernel
theorem dX7_isTold_59 : decode cX7_isTold 59 = .ok (.ireturn, 1) := by decide +kernel
def lp_X7_isTold_22 (a1 : Int32) (μ : Mem) : Nat → Int32 → Option (Int32)
  | 0, _ => none
  | n + 1, x1 => if (μ 0 1 1) ≤ x1 then (some 1) else ((f_X7_at μ x1).bind fun (q2 : Int32) => if a1 < q2 then (some 0) else ((f_X7_at μ (x1 + 1)).bind fun (q3 : Int32) => if q3 ≤ 1 then (lp_X7_isTold_22 a1 μ n (x1 + 2)) else (some 0)))
def f_X7_isTold (μ : Mem) (a1 : Int32) : Option (Int32) := if 40 < (μ 0 1 1) then (some 0) else (if (jrem (μ 0 1 1) 2) = 0 then (lp_X7_isTold_22 a1 μ 4096 0) else (some 0))
set_option maxHeartbeats 4000000 in
set_option maxRecDepth 100000 in
theorem c_X7_isTold (G : GG) (l : Launch) (μ : Mem) (a1 : Int32) : CR G l yX7_isTold (.code yX7_isTold cX7_isTold 3 (some .boolean)) 2 [.ref (gad G 0 1), .int a1] μ (f_X7_isTold μ a1) := by
  refine CR.of (own := "SaturdayKeep$Tape") (L0 := [some (.ref (gad G 0 1)), some (.int a1), none]) rfl rfl rfl (Nat.le_of_ble_eq_true rfl) (fun C hl hC => ?_)
  subst hl
  delta f_X7_isTold
  refine aw_aload_n (pc := 0) (i := 0) hC dX7_isTold_0 rfl rfl ?_
  refine aw_get (pc := 1) hC inX7 (v0 (j := 1) (by decide)) rfl rfl 1 (by decide) kw43 rfl rfl dX7_isTold_1 ?_
  refine aw_bipush (pc := 4) (v := 40) hC dX7_isTold_4 bc40 ?_
  refine aw_icmp_gt (pc := 6) (tgt := 18) hC dX7_isTold_6 (by decide) (fun _ => ?_) (fun _ => ?_)
  · skip
    refine aw_iconst (pc := 18) (v := 0) hC dX7_isTold_18 ic0 ?_
    exact aw_zret0R hC dX7_isTold_19
  · skip
    refine aw_aload_n (pc := 9) (i := 0) hC dX7_isTold_9 rfl rfl ?_
    refine aw_get (pc := 10) hC inX7 (v0 (j := 1) (by decide)) rfl rfl 1 (by decide) kw43 rfl rfl dX7_isTold_10 ?_
    refine aw_iconst (pc := 13) (v := 2) hC dX7_isTold_13 ic2 ?_
    refine aw_irem (pc := 14) hC dX7_isTold_14 (by decide) ?_
    refine aw_if_eq (pc := 15) (tgt := 20) hC dX7_isTold_15 (by decide) (fun _ => ?_) (fun _ => ?_)
    · skip
      refine aw_iconst (pc := 20) (v := 0) hC dX7_isTold_20 ic0 ?_
      refine aw_istore_n (pc := 21) (i := 2) hC dX7_isTold_21 rfl rfl (by decide) ?_
      have hL22 : ∀ (n : Nat) (x1 : Int32), AW G C (qR G C 0 0 μ) 0 0 3 μ 22 [some (.ref (gad G 0 1)), some (.int a1), some (.int x1)] [] (lp_X7_isTold_22 a1 μ n x1) := by
        intro n
        induction n with
        | zero => intro x1; exact aw_none
        | succ n ih =>
          intro x1
          rw [lp_X7_isTold_22]
          refine aw_iload_n (pc := 22) (i := 2) hC dX7_isTold_22 rfl rfl ?_
          refine aw_aload_n (pc := 23) (i := 0) hC dX7_isTold_23 rfl rfl ?_
          refine aw_get (pc := 24) hC inX7 (v0 (j := 1) (by decide)) rfl rfl 1 (by decide) kw43 rfl rfl dX7_isTold_24 ?_
          refine aw_icmp_ge (pc := 27) (tgt := 58) hC dX7_isTold_27 (by decide) (fun _ => ?_) (fun _ => ?_)
          · skip
            refine aw_iconst (pc := 58) (v := 1) hC dX7_isTold_58 ic1 ?_
            exact aw_zret1R hC dX7_isTold_59
          · skip
            refine aw_aload_n (pc := 30) (i := 0) hC dX7_isTold_30 rfl rfl ?_
            refine aw_iload_n (pc := 31) (i := 2) hC dX7_isTold_31 rfl rfl ?_
            refine aw_callVR (pc := 32) (As := [.int x1]) hC mb_X7_at kw1176 (by decide) (c_X7_at G C.2.1   μ x1) (v0 (j := 1) (by decide)) rfl rfl rfl (Nat.le_of_ble_eq_true rfl) dX7_isTold_32 (fun q2 => ?_)
            refine aw_iload_n (pc := 35) (i := 1) hC dX7_isTold_35 rfl rfl ?_
            refine aw_icmp_gt (pc := 36) (tgt := 50) hC dX7_isTold_36 (by decide) (fun _ => ?_) (fun _ => ?_)
            · skip
              refine aw_iconst (pc := 50) (v := 0) hC dX7_isTold_50 ic0 ?_
              exact aw_zret0R hC dX7_isTold_51
            · skip
              refine aw_aload_n (pc := 39) (i := 0) hC dX7_isTold_39 rfl rfl ?_
              refine aw_iload_n (pc := 40) (i := 2) hC dX7_isTold_40 rfl rfl ?_
              refine aw_iconst (pc := 41) (v := 1) hC dX7_isTold_41 ic1 ?_
              refine aw_iadd (pc := 42) hC dX7_isTold_42 ?_
              refine aw_callVR (pc := 43) (As := [.int (x1 + 1)]) hC mb_X7_at kw1176 (by decide) (c_X7_at G C.2.1   μ (x1 + 1)) (v0 (j := 1) (by decide)) rfl rfl rfl (Nat.le_of_ble_eq_true rfl) dX7_isTold_43 (fun q3 => ?_)
              refine aw_iconst (pc := 46) (v := 1) hC dX7_isTold_46 ic1 ?_
              refine aw_icmp_le (pc := 47) (tgt := 52) hC dX7_isTold_47 (by decide) (fun _ => ?_) (fun _ => ?_)
              · skip
                refine aw_iinc (pc := 52) (v := x1 + 2) hC dX7_isTold_52 rfl (congrArg (HAdd.hAdd _) ic2) rfl (by decide) ?_
                refine aw_goto (pc := 55) (tgt := 22) hC dX7_isTold_55 (by decide) ?_
                exact ih (x1 + 2)
              · skip
                refine aw_iconst (pc := 50) (v := 0) hC dX7_isTold_50 ic0 ?_
                exact aw_zret0R hC dX7_isTold_51
      exact hL22 4096 0
    · skip
      refine aw_iconst (pc := 18) (v := 0) hC dX7_isTold_18 ic0 ?_
      exact aw_zret0R hC dX7_isTold_19
theorem dX8_isLetter_0 : decode cX8_isLetter 0 = .ok (.iload_n 0, 1) := by decide +kernel
theorem dX8_isLetter_1 : decode cX8_isLetter 1 = .ok (.bipush 97, 2) := by decide +kernel
theorem dX8_isLetter_3 : decode cX8_isLetter 3 = .ok (.if_icmp .lt 13, 3) := by decide +kernel
theorem dX8_isLetter_6 : decode cX8_isLetter 6 = .ok (.iload_n 0, 1) := by decide +kernel
theorem dX8_isLetter_7 : decode cX8_isLetter 7 = .ok (.bipush 122, 2) := by decide +kernel
theorem dX8_isLetter_9 : decode cX8_isLetter 9 = .ok (.if_icmp .gt 7, 3) := by decide +kernel
theorem dX8_isLetter_12 : decode cX8_isLetter 12 = .ok (.iconst 1, 1) := by decide +kernel
theorem dX8_isLetter_13 : decode cX8_isLetter 13 = .ok (.goto 4, 3) := by decide +kernel
theorem dX8_isLetter_16 : decode cX8_isLetter 16 = .ok (.iconst 0, 1) := by decide +kernel
theorem dX8_isLetter_17 : decode cX8_isLetter 17 = .ok (.ireturn, 1) := by decide +kernel
def f_X8_isLetter (a1 : Int32) : Option (Int32) := if a1 < 97 then (some 0) else (if 122 < a1 then (some 0) else (some 1))
set_option maxHeartbeats 4000000 in
set_option maxRecDepth 100000 in
theorem c_X8_isLetter (G : GG) (l : Launch) (μ : Mem) (a1 : Int32) : CR G l yX8_isLetter (.code yX8_isLetter cX8_isLetter 1 (some .boolean)) 1 [.int a1] μ (f_X8_isLetter a1) := by
  refine CR.of (own := "SaturdayKeep$Tokens") (L0 := [some (.int a1)]) rfl rfl rfl (Nat.le_of_ble_eq_true rfl) (fun C hl hC => ?_)
  subst hl
  delta f_X8_isLetter
  refine aw_iload_n (pc := 0) (i := 0) hC dX8_isLetter_0 rfl rfl ?_
  refine aw_bipush (pc := 1) (v := 97) hC dX8_isLetter_1 bc97 ?_
  refine aw_icmp_lt (pc := 3) (tgt := 16) hC dX8_isLetter_3 (by decide) (fun _ => ?_) (fun _ => ?_)
  · skip
    refine aw_iconst (pc := 16) (v := 0) hC dX8_isLetter_16 ic0 ?_
    exact aw_zret0R hC dX8_isLetter_17
  · skip
    refine aw_iload_n (pc := 6) (i := 0) hC dX8_isLetter_6 rfl rfl ?_
    refine aw_bipush (pc := 7) (v := 122) hC dX8_isLetter_7 bc122 ?_
    refine aw_icmp_gt (pc := 9) (tgt := 16) hC dX8_isLetter_9 (by decide) (fun _ => ?_) (fun _ => ?_)
    · skip
      refine aw_iconst (pc := 16) (v := 0) hC dX8_isLetter_16 ic0 ?_
      exact aw_zret0R hC dX8_isLetter_17
    · skip
      refine aw_iconst (pc := 12) (v := 1) hC dX8_isLetter_12 ic1 ?_
      refine aw_goto (pc := 13) (tgt := 17) hC dX8_isLetter_13 (by decide) ?_
      exact aw_zret1R hC dX8_isLetter_17
theorem dX8_isDigit_0 : decode cX8_isDigit 0 = .ok (.iload_n 0, 1) := by decide +kernel
theorem dX8_isDigit_1 : decode cX8_isDigit 1 = .ok (.bipush 48, 2) := by decide +kernel
theorem dX8_isDigit_3 : decode cX8_isDigit 3 = .ok (.if_icmp .lt 13, 3) := by decide +kernel
theorem dX8_isDigit_6 : decode cX8_isDigit 6 = .ok (.iload_n 0, 1) := by decide +kernel
theorem dX8_isDigit_7 : decode cX8_isDigit 7 = .ok (.bipush 57, 2) := by decide +kernel
theorem dX8_isDigit_9 : decode cX8_isDigit 9 = .ok (.if_icmp .gt 7, 3) := by decide +kernel
theorem dX8_isDigit_12 : decode cX8_isDigit 12 = .ok (.iconst 1, 1) := by decide +kernel
theorem dX8_isDigit_13 : decode cX8_isDigit 13 = .ok (.goto 4, 3) := by decide +kernel
theorem dX8_isDigit_16 : decode cX8_isDigit 16 = .ok (.iconst 0, 1) := by decide +kernel
theorem dX8_isDigit_17 : decode cX8_isDigit 17 = .ok (.ireturn, 1) := by decide +kernel
def f_X8_isDigit (a1 : Int32) : Option (Int32) := if a1 < 48 then (some 0) else (if 57 < a1 then (some 0) else (some 1))
set_option maxHeartbeats 4000000 in
set_option maxRecDepth 100000 in
theorem c_X8_isDigit (G : GG) (l : Launch) (μ : Mem) (a1 : Int32) : CR G l yX8_isDigit (.code yX8_isDigit cX8_isDigit 1 (some .boolean)) 1 [.int a1] μ (f_X8_isDigit a1) := by
  refine CR.of (own := "SaturdayKeep$Tokens") (L0 := [some (.int a1)]) rfl rfl rfl (Nat.le_of_ble_eq_true rfl) (fun C hl hC => ?_)
  subst hl
  delta f_X8_isDigit
  refine aw_iload_n (pc := 0) (i := 0) hC dX8_isDigit_0 rfl rfl ?_
  refine aw_bipush (pc := 1) (v := 48) hC dX8_isDigit_1 bc48 ?_
  refine aw_icmp_lt (pc := 3) (tgt := 16) hC dX8_isDigit_3 (by decide) (fun _ => ?_) (fun _ => ?_)
  · skip
    refine aw_iconst (pc := 16) (v := 0) hC dX8_isDigit_16 ic0 ?_
    exact aw_zret0R hC dX8_isDigit_17
  · skip
    refine aw_iload_n (pc := 6) (i := 0) hC dX8_isDigit_6 rfl rfl ?_
    refine aw_bipush (pc := 7) (v := 57) hC dX8_isDigit_7 bc57 ?_
    refine aw_icmp_gt (pc := 9) (tgt := 16) hC dX8_isDigit_9 (by decide) (fun _ => ?_) (fun _ => ?_)
    · skip
      refine aw_iconst (pc := 16) (v := 0) hC dX8_isDigit_16 ic0 ?_
      exact aw_zret0R hC dX8_isDigit_17
    · skip
      refine aw_iconst (pc := 12) (v := 1) hC dX8_isDigit_12 ic1 ?_
      refine aw_goto (pc := 13) (tgt := 17) hC dX8_isDigit_13 (by decide) ?_
      exact aw_zret1R hC dX8_isDigit_17
theorem dX8_endOf_0 : decode cX8_endOf 0 = .ok (.aload_n 0, 1) := by decide +kernel
theorem dX8_endOf_1 : decode cX8_endOf 1 = .ok (.iload_n 1, 1) := by decide +kernel
theorem dX8_endOf_2 : decode cX8_endOf 2 = .ok (.invokevirtual 43, 3) := by decide +kernel
theorem dX8_endOf_5 : decode cX8_endOf 5 = .ok (.invokestatic 50, 3) := by decide +kernel
theorem dX8_endOf_8 : decode cX8_endOf 8 = .ok (.istore_n 2, 1) := by decide +kernel
theorem dX8_endOf_9 : decode cX8_endOf 9 = .ok (.aload_n 0, 1) := by decide +kernel
theorem dX8_endOf_10 : decode cX8_endOf 10 = .ok (.iload_n 1, 1) := by decide +kernel
theorem dX8_endOf_11 : decode cX8_endOf 11 = .ok (.invokevirtual 43, 3) := by decide +kernel
theorem dX8_endOf_14 : decode cX8_endOf 14 = .ok (.invokestatic 54, 3) := by decide +kernel
theorem dX8_endOf_17 : decode cX8_endOf 17 = .ok (.istore_n 3, 1) := by decide +kernel
theorem dX8_endOf_18 : decode cX8_endOf 18 = .ok (.iload_n 1, 1) := by decide +kernel
theorem dX8_endOf_19 : decode cX8_endOf 19 = .ok (.iconst 1, 1) := by decide +kernel
theorem dX8_endOf_20 : decode cX8_endOf 20 = .ok (.iadd, 1) := by decide +kernel
theorem dX8_endOf_21 : decode cX8_endOf 21 = .ok (.istore 4, 2) := by decide +kernel
theorem dX8_endOf_23 : decode cX8_endOf 23 = .ok (.iload 4, 2) := by decide +kernel
theorem dX8_endOf_25 : decode cX8_endOf 25 = .ok (.aload_n 0, 1) := by decide +kernel
theorem dX8_endOf_26 : decode cX8_endOf 26 = .ok (.getfield 28, 3) := by decide +kernel
theorem dX8_endOf_29 : decode cX8_endOf 29 = .ok (.if_icmp .ge 41, 3) := by decide +kernel
theorem dX8_endOf_32 : decode cX8_endOf 32 = .ok (.iload_n 2, 1) := by decide +kernel
theorem dX8_endOf_33 : decode cX8_endOf 33 = .ok (.ifCond .eq 15, 3) := by decide +kernel
theorem dX8_endOf_36 : decode cX8_endOf 36 = .ok (.aload_n 0, 1) := by decide +kernel
theorem dX8_endOf_37 : decode cX8_endOf 37 = .ok (.iload 4, 2) := by decide +kernel
theorem dX8_endOf_39 : decode cX8_endOf 39 = .ok (.invokevirtual 43, 3) := by decide +kernel
theorem dX8_endOf_42 : decode cX8_endOf 42 = .ok (.invokestatic 50, 3) := by decide +kernel
theorem dX8_endOf_45 : decode cX8_endOf 45 = .ok (.ifCond .ne 19, 3) := by decide +kernel
theorem dX8_endOf_48 : decode cX8_endOf 48 = .ok (.iload_n 3, 1) := by decide +kernel
theorem dX8_endOf_49 : decode cX8_endOf 49 = .ok (.ifCond .eq 21, 3) := by decide +kernel
theorem dX8_endOf_52 : decode cX8_endOf 52 = .ok (.aload_n 0, 1) := by decide +kernel
theorem dX8_endOf_53 : decode cX8_endOf 53 = .ok (.iload 4, 2) := by decide +kernel
theorem dX8_endOf_55 : decode cX8_endOf 55 = .ok (.invokevirtual 43, 3) := by decide +kernel
theorem dX8_endOf_58 : decode cX8_endOf 58 = .ok (.invokestatic 54, 3) := by decide +kernel
theorem dX8_endOf_61 : decode cX8_endOf 61 = .ok (.ifCond .eq 9, 3) := by decide +kernel
theorem dX8_endOf_64 : decode cX8_endOf 64 = .ok (.iinc 4 1, 3) := by decide +kernel
theorem dX8_endOf_67 : decode cX8_endOf 67 = .ok (.goto (-44), 3) := by decide +kernel
theorem dX8_endOf_70 : decode cX8_endOf 70 = .ok (.iload 4, 2) := by decide +kernel
theorem dX8_endOf_72 : decode cX8_endOf 72 = .ok (.ireturn, 1) := by decide +kernel
def lp_X8_endOf_23 (μ : Mem) (q2 : Int32) (q4 : Int32) : Nat → Int32 → Option (Int32)
  | 0, _ => none
  | n + 1, x5 => if (μ 0 1 1) ≤ x5 then (some x5) else (nm (if q4 = 0 then (some x5) else ((f_X7_at μ x5).bind fun (q6 : Int32) => (f_X8_isDigit q6).bind fun (q7 : Int32) => if q7 = 0 then (some x5) else (lp_X8_endOf_23 μ q2 q4 n (x5 + 1)))) fun (J48 : Option (Int32)) => if q2 = 0 then (J48) else ((f_X7_at μ x5).bind fun (q8 : Int32) => (f_X8_isLetter q8).bind fun (q9 : Int32) => if q9 = 0 then (J48) else (lp_X8_endOf_23 μ q2 q4 n (x5 + 1))))
def f_X8_endOf (μ : Mem) (a2 : Int32) : Option (Int32) := (f_X7_at μ a2).bind fun (q1 : Int32) => (f_X8_isLetter q1).bind fun (q2 : Int32) => (f_X7_at μ a2).bind fun (q3 : Int32) => (f_X8_isDigit q3).bind fun (q4 : Int32) => lp_X8_endOf_23 μ q2 q4 4096 (a2 + 1)
set_option maxHeartbeats 4000000 in
set_option maxRecDepth 100000 in
theorem c_X8_endOf (G : GG) (l : Launch) (μ : Mem) (a2 : Int32) : CR G l yX8_endOf (.code yX8_endOf cX8_endOf 5 (some .int)) 2 [.ref (gad G 0 1), .int a2] μ (f_X8_endOf μ a2) := by
  refine CR.of (own := "SaturdayKeep$Tokens") (L0 := [some (.ref (gad G 0 1)), some (.int a2), none, none, none]) rfl rfl rfl (Nat.le_of_ble_eq_true rfl) (fun C hl hC => ?_)
  subst hl
  delta f_X8_endOf
  refine aw_aload_n (pc := 0) (i := 0) hC dX8_endOf_0 rfl rfl ?_
  refine aw_iload_n (pc := 1) (i := 1) hC dX8_endOf_1 rfl rfl ?_
  refine aw_callVR (pc := 2) (As := [.int a2]) hC mb_X7_at kw593 (by decide) (c_X7_at G C.2.1   μ a2) (v0 (j := 1) (by decide)) rfl rfl rfl (Nat.le_of_ble_eq_true rfl) dX8_endOf_2 (fun q1 => ?_)
  refine aw_callSR (pc := 5) (As := [.int q1]) hC ms_X8_isLetter kw597 (by decide) (c_X8_isLetter G C.2.1   μ q1) rfl (Nat.le_of_ble_eq_true rfl) dX8_endOf_5 (fun q2 => ?_)
  refine aw_istore_n (pc := 8) (i := 2) hC dX8_endOf_8 rfl rfl (by decide) ?_
  refine aw_aload_n (pc := 9) (i := 0) hC dX8_endOf_9 rfl rfl ?_
  refine aw_iload_n (pc := 10) (i := 1) hC dX8_endOf_10 rfl rfl ?_
  refine aw_callVR (pc := 11) (As := [.int a2]) hC mb_X7_at kw593 (by decide) (c_X7_at G C.2.1   μ a2) (v0 (j := 1) (by decide)) rfl rfl rfl (Nat.le_of_ble_eq_true rfl) dX8_endOf_11 (fun q3 => ?_)
  refine aw_callSR (pc := 14) (As := [.int q3]) hC ms_X8_isDigit kw600 (by decide) (c_X8_isDigit G C.2.1   μ q3) rfl (Nat.le_of_ble_eq_true rfl) dX8_endOf_14 (fun q4 => ?_)
  refine aw_istore_n (pc := 17) (i := 3) hC dX8_endOf_17 rfl rfl (by decide) ?_
  refine aw_iload_n (pc := 18) (i := 1) hC dX8_endOf_18 rfl rfl ?_
  refine aw_iconst (pc := 19) (v := 1) hC dX8_endOf_19 ic1 ?_
  refine aw_iadd (pc := 20) hC dX8_endOf_20 ?_
  refine aw_istore (pc := 21) hC dX8_endOf_21 rfl (by decide) ?_
  have hL23 : ∀ (n : Nat) (x5 : Int32), AW G C (qR G C 0 0 μ) 0 0 5 μ 23 [some (.ref (gad G 0 1)), none, some (.int q2), some (.int q4), some (.int x5)] [] (lp_X8_endOf_23 μ q2 q4 n x5) := by
    intro n
    induction n with
    | zero => intro x5; exact aw_none
    | succ n ih =>
      intro x5
      rw [lp_X8_endOf_23]
      refine aw_iload (pc := 23) hC dX8_endOf_23 rfl ?_
      refine aw_aload_n (pc := 25) (i := 0) hC dX8_endOf_25 rfl rfl ?_
      refine aw_get (pc := 26) hC inX7 (v0 (j := 1) (by decide)) rfl rfl 1 (by decide) kw44 rfl rfl dX8_endOf_26 ?_
      refine aw_icmp_ge (pc := 29) (tgt := 70) hC dX8_endOf_29 (by decide) (fun _ => ?_) (fun _ => ?_)
      · skip
        refine aw_iload (pc := 70) hC dX8_endOf_70 rfl ?_
        exact aw_iretR hC dX8_endOf_72
      · skip
        refine aw_iload_n (pc := 32) (i := 2) hC dX8_endOf_32 rfl rfl ?_
        refine aw_nmJ (fun (J48 : Option (Int32)) => AW G C (qR G C 0 0 μ) 0 0 5 μ 48 [some (.ref (gad G 0 1)), none, some (.int q2), some (.int q4), some (.int x5)] [] (J48)) ?_ (fun J48 hJ48 => ?_)
        · skip
          refine aw_iload_n (pc := 48) (i := 3) hC dX8_endOf_48 rfl rfl ?_
          refine aw_if_eq (pc := 49) (tgt := 70) hC dX8_endOf_49 (by decide) (fun _ => ?_) (fun _ => ?_)
          · skip
            refine aw_iload (pc := 70) hC dX8_endOf_70 rfl ?_
            exact aw_iretR hC dX8_endOf_72
          · skip
            refine aw_aload_n (pc := 52) (i := 0) hC dX8_endOf_52 rfl rfl ?_
            refine aw_iload (pc := 53) hC dX8_endOf_53 rfl ?_
            refine aw_callVR (pc := 55) (As := [.int x5]) hC mb_X7_at kw593 (by decide) (c_X7_at G C.2.1   μ x5) (v0 (j := 1) (by decide)) rfl rfl rfl (Nat.le_of_ble_eq_true rfl) dX8_endOf_55 (fun q6 => ?_)
            refine aw_callSR (pc := 58) (As := [.int q6]) hC ms_X8_isDigit kw600 (by decide) (c_X8_isDigit G C.2.1   μ q6) rfl (Nat.le_of_ble_eq_true rfl) dX8_endOf_58 (fun q7 => ?_)
            refine aw_if_eq (pc := 61) (tgt := 70) hC dX8_endOf_61 (by decide) (fun _ => ?_) (fun _ => ?_)
            · skip
              refine aw_iload (pc := 70) hC dX8_endOf_70 rfl ?_
              exact aw_iretR hC dX8_endOf_72
            · skip
              refine aw_iinc (pc := 64) (v := x5 + 1) hC dX8_endOf_64 rfl (congrArg (HAdd.hAdd _) ic1) rfl (by decide) ?_
              refine aw_goto (pc := 67) (tgt := 23) hC dX8_endOf_67 (by decide) ?_
              exact ih (x5 + 1)
        · skip
          refine aw_if_eq (pc := 33) (tgt := 48) hC dX8_endOf_33 (by decide) (fun _ => ?_) (fun _ => ?_)
          · skip
            exact hJ48
          · skip
            refine aw_aload_n (pc := 36) (i := 0) hC dX8_endOf_36 rfl rfl ?_
            refine aw_iload (pc := 37) hC dX8_endOf_37 rfl ?_
            refine aw_callVR (pc := 39) (As := [.int x5]) hC mb_X7_at kw593 (by decide) (c_X7_at G C.2.1   μ x5) (v0 (j := 1) (by decide)) rfl rfl rfl (Nat.le_of_ble_eq_true rfl) dX8_endOf_39 (fun q8 => ?_)
            refine aw_callSR (pc := 42) (As := [.int q8]) hC ms_X8_isLetter kw597 (by decide) (c_X8_isLetter G C.2.1   μ q8) rfl (Nat.le_of_ble_eq_true rfl) dX8_endOf_42 (fun q9 => ?_)
            refine aw_if_ne (pc := 45) (tgt := 64) hC dX8_endOf_45 (by decide) (fun _ => ?_) (fun _ => ?_)
            · skip
              exact hJ48
            · skip
              refine aw_iinc (pc := 64) (v := x5 + 1) hC dX8_endOf_64 rfl (congrArg (HAdd.hAdd _) ic1) rfl (by decide) ?_
              refine aw_goto (pc := 67) (tgt := 23) hC dX8_endOf_67 (by decide) ?_
              exact ih (x5 + 1)
  exact aw_drop [1] (hL23 4096 (a2 + 1))
theorem dX8_isWord_0 : decode cX8_isWord 0 = .ok (.iload_n 3, 1) := by decide +kernel
theorem dX8_isWord_1 : decode cX8_isWord 1 = .ok (.iload_n 2, 1) := by decide +kernel
theorem dX8_isWord_2 : decode cX8_isWord 2 = .ok (.isub, 1) := by decide +kernel
theorem dX8_isWord_3 : decode cX8_isWord 3 = .ok (.aload_n 0, 1) := by decide +kernel
theorem dX8_isWord_4 : decode cX8_isWord 4 = .ok (.invokevirtual 121, 3) := by decide +kernel
theorem dX8_isWord_7 : decode cX8_isWord 7 = .ok (.if_icmp .eq 5, 3) := by decide +kernel
theorem dX8_isWord_10 : decode cX8_isWord 10 = .ok (.iconst 0, 1) := by decide +kernel
theorem dX8_isWord_11 : decode cX8_isWord 11 = .ok (.ireturn, 1) := by decide +kernel
theorem dX8_isWord_12 : decode cX8_isWord 12 = .ok (.iconst 0, 1) := by decide +kernel
theorem dX8_isWord_13 : decode cX8_isWord 13 = .ok (.istore 4, 2) := by decide +kernel
theorem dX8_isWord_15 : decode cX8_isWord 15 = .ok (.iload 4, 2) := by decide +kernel
theorem dX8_isWord_17 : decode cX8_isWord 17 = .ok (.aload_n 0, 1) := by decide +kernel
theorem dX8_isWord_18 : decode cX8_isWord 18 = .ok (.invokevirtual 121, 3) := by decide +kernel
theorem dX8_isWord_21 : decode cX8_isWord 21 = .ok (.if_icmp .ge 28, 3) := by decide +kernel
theorem dX8_isWord_24 : decode cX8_isWord 24 = .ok (.aload_n 1, 1) := by decide +kernel
theorem dX8_isWord_25 : decode cX8_isWord 25 = .ok (.iload_n 2, 1) := by decide +kernel
theorem dX8_isWord_26 : decode cX8_isWord 26 = .ok (.iload 4, 2) := by decide +kernel
theorem dX8_isWord_28 : decode cX8_isWord 28 = .ok (.iadd, 1) := by decide +kernel
theorem dX8_isWord_29 : decode cX8_isWord 29 = .ok (.invokevirtual 43, 3) := by decide +kernel
theorem dX8_isWord_32 : decode cX8_isWord 32 = .ok (.aload_n 0, 1) := by decide +kernel
theorem dX8_isWord_33 : decode cX8_isWord 33 = .ok (.iload 4, 2) := by decide +kernel
theorem dX8_isWord_35 : decode cX8_isWord 35 = .ok (.invokevirtual 126, 3) := by decide +kernel
theorem dX8_isWord_38 : decode cX8_isWord 38 = .ok (.if_icmp .eq 5, 3) := by decide +kernel
theorem dX8_isWord_41 : decode cX8_isWord 41 = .ok (.iconst 0, 1) := by decide +kernel
theorem dX8_isWord_42 : decode cX8_isWord 42 = .ok (.ireturn, 1) := by decide +kernel
theorem dX8_isWord_43 : decode cX8_isWord 43 = .ok (.iinc 4 1, 3) := by decide +kernel
theorem dX8_isWord_46 : decode cX8_isWord 46 = .ok (.goto (-31), 3) := by decide +kernel
theorem dX8_isWord_49 : decode cX8_isWord 49 = .ok (.iconst 1, 1) := by decide +kernel
theorem dX8_isWord_50 : decode cX8_isWord 50 = .ok (.ireturn, 1) := by decide +kernel
def lp_X8_isWord_15 (a1 : Nat) (a3 : Int32) (μ : Mem) : Nat → Int32 → Option (Int32)
  | 0, _ => none
  | n + 1, x2 => (f_J0_length_8abf5 a1).bind fun (q3 : Int32) => if q3 ≤ x2 then (some 1) else ((f_X7_at μ (a3 + x2)).bind fun (q4 : Int32) => (f_J0_charAt_5068e a1 μ x2).bind fun (q5 : Int32) => if q4 = q5 then (lp_X8_isWord_15 a1 a3 μ n (x2 + 1)) else (some 0))
def f_X8_isWord (a1 : Nat) (μ : Mem) (a3 : Int32) (a4 : Int32) : Option (Int32) := (f_J0_length_8abf5 a1).bind fun (q1 : Int32) => if (a4 - a3) = q1 then (lp_X8_isWord_15 a1 a3 μ 4096 0) else (some 0)
set_option maxHeartbeats 4000000 in
set_option maxRecDepth 100000 in
theorem c_X8_isWord (G : GG) (l : Launch) (a1 : Nat) (ha1 : a1 < 68) (μ : Mem) (a3 : Int32) (a4 : Int32) : CR G l yX8_isWord (.code yX8_isWord cX8_isWord 5 (some .boolean)) 10 [.ref (gsK G a1), .ref (gad G 0 1), .int a3, .int a4] μ (f_X8_isWord a1 μ a3 a4) := by
  refine CR.of (own := "SaturdayKeep$Tokens") (L0 := [some (.ref (gsK G a1)), some (.ref (gad G 0 1)), some (.int a3), some (.int a4), none]) rfl rfl rfl (Nat.le_of_ble_eq_true rfl) (fun C hl hC => ?_)
  subst hl
  delta f_X8_isWord
  refine aw_iload_n (pc := 0) (i := 3) hC dX8_isWord_0 rfl rfl ?_
  refine aw_iload_n (pc := 1) (i := 2) hC dX8_isWord_1 rfl rfl ?_
  refine aw_isub (pc := 2) hC dX8_isWord_2 ?_
  refine aw_aload_n (pc := 3) (i := 0) hC dX8_isWord_3 rfl rfl ?_
  refine aw_callTR (pc := 4) (As := []) hC mb_J0_length_8abf5 kw615 (by decide) (c_J0_length_8abf5 G C.2.1 a1 ha1 μ ) ha1 rfl rfl (Nat.le_of_ble_eq_true rfl) dX8_isWord_4 (fun q1 => ?_)
  refine aw_icmp_eq (pc := 7) (tgt := 12) hC dX8_isWord_7 (by decide) (fun _ => ?_) (fun _ => ?_)
  · skip
    refine aw_iconst (pc := 12) (v := 0) hC dX8_isWord_12 ic0 ?_
    refine aw_istore (pc := 13) hC dX8_isWord_13 rfl (by decide) ?_
    have hL15 : ∀ (n : Nat) (x2 : Int32), AW G C (qR G C 0 0 μ) 0 0 5 μ 15 [some (.ref (gsK G a1)), some (.ref (gad G 0 1)), some (.int a3), none, some (.int x2)] [] (lp_X8_isWord_15 a1 a3 μ n x2) := by
      intro n
      induction n with
      | zero => intro x2; exact aw_none
      | succ n ih =>
        intro x2
        rw [lp_X8_isWord_15]
        refine aw_iload (pc := 15) hC dX8_isWord_15 rfl ?_
        refine aw_aload_n (pc := 17) (i := 0) hC dX8_isWord_17 rfl rfl ?_
        refine aw_callTR (pc := 18) (As := []) hC mb_J0_length_8abf5 kw615 (by decide) (c_J0_length_8abf5 G C.2.1 a1 ha1 μ ) ha1 rfl rfl (Nat.le_of_ble_eq_true rfl) dX8_isWord_18 (fun q3 => ?_)
        refine aw_icmp_ge (pc := 21) (tgt := 49) hC dX8_isWord_21 (by decide) (fun _ => ?_) (fun _ => ?_)
        · skip
          refine aw_iconst (pc := 49) (v := 1) hC dX8_isWord_49 ic1 ?_
          exact aw_zret1R hC dX8_isWord_50
        · skip
          refine aw_aload_n (pc := 24) (i := 1) hC dX8_isWord_24 rfl rfl ?_
          refine aw_iload_n (pc := 25) (i := 2) hC dX8_isWord_25 rfl rfl ?_
          refine aw_iload (pc := 26) hC dX8_isWord_26 rfl ?_
          refine aw_iadd (pc := 28) hC dX8_isWord_28 ?_
          refine aw_callVR (pc := 29) (As := [.int (a3 + x2)]) hC mb_X7_at kw593 (by decide) (c_X7_at G C.2.1   μ (a3 + x2)) (v0 (j := 1) (by decide)) rfl rfl rfl (Nat.le_of_ble_eq_true rfl) dX8_isWord_29 (fun q4 => ?_)
          refine aw_aload_n (pc := 32) (i := 0) hC dX8_isWord_32 rfl rfl ?_
          refine aw_iload (pc := 33) hC dX8_isWord_33 rfl ?_
          refine aw_callTR (pc := 35) (As := [.int x2]) hC mb_J0_charAt_5068e kw625 (by decide) (c_J0_charAt_5068e G C.2.1 a1 ha1 μ x2) ha1 rfl rfl (Nat.le_of_ble_eq_true rfl) dX8_isWord_35 (fun q5 => ?_)
          refine aw_icmp_eq (pc := 38) (tgt := 43) hC dX8_isWord_38 (by decide) (fun _ => ?_) (fun _ => ?_)
          · skip
            refine aw_iinc (pc := 43) (v := x2 + 1) hC dX8_isWord_43 rfl (congrArg (HAdd.hAdd _) ic1) rfl (by decide) ?_
            refine aw_goto (pc := 46) (tgt := 15) hC dX8_isWord_46 (by decide) ?_
            exact ih (x2 + 1)
          · skip
            refine aw_iconst (pc := 41) (v := 0) hC dX8_isWord_41 ic0 ?_
            exact aw_zret0R hC dX8_isWord_42
    exact aw_drop [3] (hL15 4096 0)
  · skip
    refine aw_iconst (pc := 10) (v := 0) hC dX8_isWord_10 ic0 ?_
    exact aw_zret0R hC dX8_isWord_11
theorem dX8_wordOf_0 : decode cX8_wordOf 0 = .ok (.ldc 70, 2) := by decide +kernel
theorem dX8_wordOf_2 : decode cX8_wordOf 2 = .ok (.aload_n 0, 1) := by decide +kernel
theorem dX8_wordOf_3 : decode cX8_wordOf 3 = .ok (.iload_n 1, 1) := by decide +kernel
theorem dX8_wordOf_4 : decode cX8_wordOf 4 = .ok (.iload_n 2, 1) := by decide +kernel
theorem dX8_wordOf_5 : decode cX8_wordOf 5 = .ok (.invokestatic 72, 3) := by decide +kernel
theorem dX8_wordOf_8 : decode cX8_wordOf 8 = .ok (.ifCond .eq 6, 3) := by decide +kernel
theorem dX8_wordOf_11 : decode cX8_wordOf 11 = .ok (.bipush 10, 2) := by decide +kernel
theorem dX8_wordOf_13 : decode cX8_wordOf 13 = .ok (.ireturn, 1) := by decide +kernel
theorem dX8_wordOf_14 : decode cX8_wordOf 14 = .ok (.ldc 76, 2) := by decide +kernel
theorem dX8_wordOf_16 : decode cX8_wordOf 16 = .ok (.aload_n 0, 1) := by decide +kernel
theorem dX8_wordOf_17 : decode cX8_wordOf 17 = .ok (.iload_n 1, 1) := by decide +kernel
theorem dX8_wordOf_18 : decode cX8_wordOf 18 = .ok (.iload_n 2, 1) := by decide +kernel
theorem dX8_wordOf_19 : decode cX8_wordOf 19 = .ok (.invokestatic 72, 3) := by decide +kernel
theorem dX8_wordOf_22 : decode cX8_wordOf 22 = .ok (.ifCond .eq 6, 3) := by decide +kernel
theorem dX8_wordOf_25 : decode cX8_wordOf 25 = .ok (.bipush 11, 2) := by decide +kernel
theorem dX8_wordOf_27 : decode cX8_wordOf 27 = .ok (.ireturn, 1) := by decide +kernel
theorem dX8_wordOf_28 : decode cX8_wordOf 28 = .ok (.ldc 78, 2) := by decide +kernel
theorem dX8_wordOf_30 : decode cX8_wordOf 30 = .ok (.aload_n 0, 1) := by decide +kernel
theorem dX8_wordOf_31 : decode cX8_wordOf 31 = .ok (.iload_n 1, 1) := by decide +kernel
theorem dX8_wordOf_32 : decode cX8_wordOf 32 = .ok (.iload_n 2, 1) := by decide +kernel
theorem dX8_wordOf_33 : decode cX8_wordOf 33 = .ok (.invokestatic 72, 3) := by decide +kernel
theorem dX8_wordOf_36 : decode cX8_wordOf 36 = .ok (.ifCond .eq 6, 3) := by decide +kernel
theorem dX8_wordOf_39 : decode cX8_wordOf 39 = .ok (.bipush 12, 2) := by decide +kernel
theorem dX8_wordOf_41 : decode cX8_wordOf 41 = .ok (.ireturn, 1) := by decide +kernel
theorem dX8_wordOf_42 : decode cX8_wordOf 42 = .ok (.ldc 80, 2) := by decide +kernel
theorem dX8_wordOf_44 : decode cX8_wordOf 44 = .ok (.aload_n 0, 1) := by decide +kernel
theorem dX8_wordOf_45 : decode cX8_wordOf 45 = .ok (.iload_n 1, 1) := by decide +kernel
theorem dX8_wordOf_46 : decode cX8_wordOf 46 = .ok (.iload_n 2, 1) := by decide +kernel
theorem dX8_wordOf_47 : decode cX8_wordOf 47 = .ok (.invokestatic 72, 3) := by decide +kernel
theorem dX8_wordOf_50 : decode cX8_wordOf 50 = .ok (.ifCond .eq 6, 3) := by decide +kernel
theorem dX8_wordOf_53 : decode cX8_wordOf 53 = .ok (.bipush 13, 2) := by decide +kernel
theorem dX8_wordOf_55 : decode cX8_wordOf 55 = .ok (.ireturn, 1) := by decide +kernel
theorem dX8_wordOf_56 : decode cX8_wordOf 56 = .ok (.ldc 82, 2) := by decide +kernel
theorem dX8_wordOf_58 : decode cX8_wordOf 58 = .ok (.aload_n 0, 1) := by decide +kernel
theorem dX8_wordOf_59 : decode cX8_wordOf 59 = .ok (.iload_n 1, 1) := by decide +kernel
theorem dX8_wordOf_60 : decode cX8_wordOf 60 = .ok (.iload_n 2, 1) := by decide +kernel
theorem dX8_wordOf_61 : decode cX8_wordOf 61 = .ok (.invokestatic 72, 3) := by decide +kernel
theorem dX8_wordOf_64 : decode cX8_wordOf 64 = .ok (.ifCond .eq 6, 3) := by decide +kernel
theorem dX8_wordOf_67 : decode cX8_wordOf 67 = .ok (.bipush 14, 2) := by decide +kernel
theorem dX8_wordOf_69 : decode cX8_wordOf 69 = .ok (.ireturn, 1) := by decide +kernel
theorem dX8_wordOf_70 : decode cX8_wordOf 70 = .ok (.ldc 84, 2) := by decide +kernel
theorem dX8_wordOf_72 : decode cX8_wordOf 72 = .ok (.aload_n 0, 1) := by decide +kernel
theorem dX8_wordOf_73 : decode cX8_wordOf 73 = .ok (.iload_n 1, 1) := by decide +kernel
theorem dX8_wordOf_74 : decode cX8_wordOf 74 = .ok (.iload_n 2, 1) := by decide +kernel
theorem dX8_wordOf_75 : decode cX8_wordOf 75 = .ok (.invokestatic 72, 3) := by decide +kernel
theorem dX8_wordOf_78 : decode cX8_wordOf 78 = .ok (.ifCond .eq 6, 3) := by decide +kernel
theorem dX8_wordOf_81 : decode cX8_wordOf 81 = .ok (.bipush 15, 2) := by decide +kernel
theorem dX8_wordOf_83 : decode cX8_wordOf 83 = .ok (.ireturn, 1) := by decide +kernel
theorem dX8_wordOf_84 : decode cX8_wordOf 84 = .ok (.ldc 86, 2) := by decide +kernel
theorem dX8_wordOf_86 : decode cX8_wordOf 86 = .ok (.aload_n 0, 1) := by decide +kernel
theorem dX8_wordOf_87 : decode cX8_wordOf 87 = .ok (.iload_n 1, 1) := by decide +kernel
theorem dX8_wordOf_88 : decode cX8_wordOf 88 = .ok (.iload_n 2, 1) := by decide +kernel
theorem dX8_wordOf_89 : decode cX8_wordOf 89 = .ok (.invokestatic 72, 3) := by decide +kernel
theorem dX8_wordOf_92 : decode cX8_wordOf 92 = .ok (.ifCond .eq 6, 3) := by decide +kernel
theorem dX8_wordOf_95 : decode cX8_wordOf 95 = .ok (.bipush 16, 2) := by decide +kernel
theorem dX8_wordOf_97 : decode cX8_wordOf 97 = .ok (.ireturn, 1) := by decide +kernel
theorem dX8_wordOf_98 : decode cX8_wordOf 98 = .ok (.ldc 88, 2) := by decide +kernel
theorem dX8_wordOf_100 : decode cX8_wordOf 100 = .ok (.aload_n 0, 1) := by decide +kernel
theorem dX8_wordOf_101 : decode cX8_wordOf 101 = .ok (.iload_n 1, 1) := by decide +kernel
theorem dX8_wordOf_102 : decode cX8_wordOf 102 = .ok (.iload_n 2, 1) := by decide +kernel
theorem dX8_wordOf_103 : decode cX8_wordOf 103 = .ok (.invokestatic 72, 3) := by decide +kernel
theorem dX8_wordOf_106 : decode cX8_wordOf 106 = .ok (.ifCond .eq 6, 3) := by decide +kernel
theorem dX8_wordOf_109 : decode cX8_wordOf 109 = .ok (.bipush 17, 2) := by decide +kernel
theorem dX8_wordOf_111 : decode cX8_wordOf 111 = .ok (.ireturn, 1) := by decide +kernel
theorem dX8_wordOf_112 : decode cX8_wordOf 112 = .ok (.ldc 90, 2) := by decide +kernel
theorem dX8_wordOf_114 : decode cX8_wordOf 114 = .ok (.aload_n 0, 1) := by decide +kernel
theorem dX8_wordOf_115 : decode cX8_wordOf 115 = .ok (.iload_n 1, 1) := by decide +kernel
theorem dX8_wordOf_116 : decode cX8_wordOf 116 = .ok (.iload_n 2, 1) := by decide +kernel
theorem dX8_wordOf_117 : decode cX8_wordOf 117 = .ok (.invokestatic 72, 3) := by decide +kernel
theorem dX8_wordOf_120 : decode cX8_wordOf 120 = .ok (.ifCond .eq 6, 3) := by decide +kernel
theorem dX8_wordOf_123 : decode cX8_wordOf 123 = .ok (.bipush 18, 2) := by decide +kernel
theorem dX8_wordOf_125 : decode cX8_wordOf 125 = .ok (.ireturn, 1) := by decide +kernel
theorem dX8_wordOf_126 : decode cX8_wordOf 126 = .ok (.ldc 92, 2) := by decide +kernel
theorem dX8_wordOf_128 : decode cX8_wordOf 128 = .ok (.aload_n 0, 1) := by decide +kernel
theorem dX8_wordOf_129 : decode cX8_wordOf 129 = .ok (.iload_n 1, 1) := by decide +kernel
theorem dX8_wordOf_130 : decode cX8_wordOf 130 = .ok (.iload_n 2, 1) := by decide +kernel
theorem dX8_wordOf_131 : decode cX8_wordOf 131 = .ok (.invokestatic 72, 3) := by decide +kernel
theorem dX8_wordOf_134 : decode cX8_wordOf 134 = .ok (.ifCond .eq 6, 3) := by decide +kernel
theorem dX8_wordOf_137 : decode cX8_wordOf 137 = .ok (.bipush 20, 2) := by decide +kernel
theorem dX8_wordOf_139 : decode cX8_wordOf 139 = .ok (.ireturn, 1) := by decide +kernel
theorem dX8_wordOf_140 : decode cX8_wordOf 140 = .ok (.ldc 93, 2) := by decide +kernel
theorem dX8_wordOf_142 : decode cX8_wordOf 142 = .ok (.aload_n 0, 1) := by decide +kernel
theorem dX8_wordOf_143 : decode cX8_wordOf 143 = .ok (.iload_n 1, 1) := by decide +kernel
theorem dX8_wordOf_144 : decode cX8_wordOf 144 = .ok (.iload_n 2, 1) := by decide +kernel
theorem dX8_wordOf_145 : decode cX8_wordOf 145 = .ok (.invokestatic 72, 3) := by decide +kernel
theorem dX8_wordOf_148 : decode cX8_wordOf 148 = .ok (.ifCond .eq 6, 3) := by decide +kernel
theorem dX8_wordOf_151 : decode cX8_wordOf 151 = .ok (.bipush 21, 2) := by decide +kernel
theorem dX8_wordOf_153 : decode cX8_wordOf 153 = .ok (.ireturn, 1) := by decide +kernel
theorem dX8_wordOf_154 : decode cX8_wordOf 154 = .ok (.ldc 95, 2) := by decide +kernel
theorem dX8_wordOf_156 : decode cX8_wordOf 156 = .ok (.aload_n 0, 1) := by decide +kernel
theorem dX8_wordOf_157 : decode cX8_wordOf 157 = .ok (.iload_n 1, 1) := by decide +kernel
theorem dX8_wordOf_158 : decode cX8_wordOf 158 = .ok (.iload_n 2, 1) := by decide +kernel
theorem dX8_wordOf_159 : decode cX8_wordOf 159 = .ok (.invokestatic 72, 3) := by decide +kernel
theorem dX8_wordOf_162 : decode cX8_wordOf 162 = .ok (.ifCond .eq 6, 3) := by decide +kernel
theorem dX8_wordOf_165 : decode cX8_wordOf 165 = .ok (.bipush 22, 2) := by decide +kernel
theorem dX8_wordOf_167 : decode cX8_wordOf 167 = .ok (.ireturn, 1) := by decide +kernel
theorem dX8_wordOf_168 : decode cX8_wordOf 168 = .ok (.ldc 97, 2) := by decide +kernel
theorem dX8_wordOf_170 : decode cX8_wordOf 170 = .ok (.aload_n 0, 1) := by decide +kernel
theorem dX8_wordOf_171 : decode cX8_wordOf 171 = .ok (.iload_n 1, 1) := by decide +kernel
theorem dX8_wordOf_172 : decode cX8_wordOf 172 = .ok (.iload_n 2, 1) := by decide +kernel
theorem dX8_wordOf_173 : decode cX8_wordOf 173 = .ok (.invokestatic 72, 3) := by decide +kernel
theorem dX8_wordOf_176 : decode cX8_wordOf 176 = .ok (.ifCond .eq 6, 3) := by decide +kernel
theorem dX8_wordOf_179 : decode cX8_wordOf 179 = .ok (.bipush 23, 2) := by decide +kernel
theorem dX8_wordOf_181 : decode cX8_wordOf 181 = .ok (.ireturn, 1) := by decide +kernel
theorem dX8_wordOf_182 : decode cX8_wordOf 182 = .ok (.ldc 99, 2) := by decide +kernel
theorem dX8_wordOf_184 : decode cX8_wordOf 184 = .ok (.aload_n 0, 1) := by decide +kernel
theorem dX8_wordOf_185 : decode cX8_wordOf 185 = .ok (.iload_n 1, 1) := by decide +kernel
theorem dX8_wordOf_186 : decode cX8_wordOf 186 = .ok (.iload_n 2, 1) := by decide +kernel
theorem dX8_wordOf_187 : decode cX8_wordOf 187 = .ok (.invokestatic 72, 3) := by decide +kernel
theorem dX8_wordOf_190 : decode cX8_wordOf 190 = .ok (.ifCond .eq 6, 3) := by decide +kernel
theorem dX8_wordOf_193 : decode cX8_wordOf 193 = .ok (.bipush 24, 2) := by decide +kernel
theorem dX8_wordOf_195 : decode cX8_wordOf 195 = .ok (.ireturn, 1) := by decide +kernel
theorem dX8_wordOf_196 : decode cX8_wordOf 196 = .ok (.ldc 101, 2) := by decide +kernel
theorem dX8_wordOf_198 : decode cX8_wordOf 198 = .ok (.aload_n 0, 1) := by decide +kernel
theorem dX8_wordOf_199 : decode cX8_wordOf 199 = .ok (.iload_n 1, 1) := by decide +kernel
theorem dX8_wordOf_200 : decode cX8_wordOf 200 = .ok (.iload_n 2, 1) := by decide +kernel
theorem dX8_wordOf_201 : decode cX8_wordOf 201 = .ok (.invokestatic 72, 3) := by decide +kernel
theorem dX8_wordOf_204 : decode cX8_wordOf 204 = .ok (.ifCond .eq 6, 3) := by decide +kernel
theorem dX8_wordOf_207 : decode cX8_wordOf 207 = .ok (.bipush 25, 2) := by decide +kernel
theorem dX8_wordOf_209 : decode cX8_wordOf 209 = .ok (.ireturn, 1) := by decide +kernel
theorem dX8_wordOf_210 : decode cX8_wordOf 210 = .ok (.ldc 103, 2) := by decide +kernel
theorem dX8_wordOf_212 : decode cX8_wordOf 212 = .ok (.aload_n 0, 1) := by decide +kernel
theorem dX8_wordOf_213 : decode cX8_wordOf 213 = .ok (.iload_n 1, 1) := by decide +kernel
theorem dX8_wordOf_214 : decode cX8_wordOf 214 = .ok (.iload_n 2, 1) := by decide +kernel
theorem dX8_wordOf_215 : decode cX8_wordOf 215 = .ok (.invokestatic 72, 3) := by decide +kernel
theorem dX8_wordOf_218 : decode cX8_wordOf 218 = .ok (.ifCond .eq 6, 3) := by decide +kernel
theorem dX8_wordOf_221 : decode cX8_wordOf 221 = .ok (.bipush 26, 2) := by decide +kernel
theorem dX8_wordOf_223 : decode cX8_wordOf 223 = .ok (.ireturn, 1) := by decide +kernel
theorem dX8_wordOf_224 : decode cX8_wordOf 224 = .ok (.ldc 105, 2) := by decide +kernel
theorem dX8_wordOf_226 : decode cX8_wordOf 226 = .ok (.aload_n 0, 1) := by decide +kernel
theorem dX8_wordOf_227 : decode cX8_wordOf 227 = .ok (.iload_n 1, 1) := by decide +kernel
theorem dX8_wordOf_228 : decode cX8_wordOf 228 = .ok (.iload_n 2, 1) := by decide +kernel
theorem dX8_wordOf_229 : decode cX8_wordOf 229 = .ok (.invokestatic 72, 3) := by decide +kernel
theorem dX8_wordOf_232 : decode cX8_wordOf 232 = .ok (.ifCond .eq 6, 3) := by decide +kernel
theorem dX8_wordOf_235 : decode cX8_wordOf 235 = .ok (.bipush 27, 2) := by decide +kernel
theorem dX8_wordOf_237 : decode cX8_wordOf 237 = .ok (.ireturn, 1) := by decide +kernel
theorem dX8_wordOf_238 : decode cX8_wordOf 238 = .ok (.ldc 107, 2) := by decide +kernel
theorem dX8_wordOf_240 : decode cX8_wordOf 240 = .ok (.aload_n 0, 1) := by decide +kernel
theorem dX8_wordOf_241 : decode cX8_wordOf 241 = .ok (.iload_n 1, 1) := by decide +kernel
theorem dX8_wordOf_242 : decode cX8_wordOf 242 = .ok (.iload_n 2, 1) := by decide +kernel
theorem dX8_wordOf_243 : decode cX8_wordOf 243 = .ok (.invokestatic 72, 3) := by decide +kernel
theorem dX8_wordOf_246 : decode cX8_wordOf 246 = .ok (.ifCond .eq 6, 3) := by decide +kernel
theorem dX8_wordOf_249 : decode cX8_wordOf 249 = .ok (.bipush 28, 2) := by decide +kernel
theorem dX8_wordOf_251 : decode cX8_wordOf 251 = .ok (.ireturn, 1) := by decide +kernel
theorem dX8_wordOf_252 : decode cX8_wordOf 252 = .ok (.ldc 109, 2) := by decide +kernel
theorem dX8_wordOf_254 : decode cX8_wordOf 254 = .ok (.aload_n 0, 1) := by decide +kernel
theorem dX8_wordOf_255 : decode cX8_wordOf 255 = .ok (.iload_n 1, 1) := by decide +kernel
theorem dX8_wordOf_256 : decode cX8_wordOf 256 = .ok (.iload_n 2, 1) := by decide +kernel
theorem dX8_wordOf_257 : decode cX8_wordOf 257 = .ok (.invokestatic 72, 3) := by decide +kernel
theorem dX8_wordOf_260 : decode cX8_wordOf 260 = .ok (.ifCond .eq 6, 3) := by decide +kernel
theorem dX8_wordOf_263 : decode cX8_wordOf 263 = .ok (.bipush 29, 2) := by decide +kernel
theorem dX8_wordOf_265 : decode cX8_wordOf 265 = .ok (.ireturn, 1) := by decide +kernel
theorem dX8_wordOf_266 : decode cX8_wordOf 266 = .ok (.ldc 111, 2) := by decide +kernel
theorem dX8_wordOf_268 : decode cX8_wordOf 268 = .ok (.aload_n 0, 1) := by decide +kernel
theorem dX8_wordOf_269 : decode cX8_wordOf 269 = .ok (.iload_n 1, 1) := by decide +kernel
theorem dX8_wordOf_270 : decode cX8_wordOf 270 = .ok (.iload_n 2, 1) := by decide +kernel
theorem dX8_wordOf_271 : decode cX8_wordOf 271 = .ok (.invokestatic 72, 3) := by decide +kernel
theorem dX8_wordOf_274 : decode cX8_wordOf 274 = .ok (.ifCond .eq 6, 3) := by decide +kernel
theorem dX8_wordOf_277 : decode cX8_wordOf 277 = .ok (.bipush 30, 2) := by decide +kernel
theorem dX8_wordOf_279 : decode cX8_wordOf 279 = .ok (.ireturn, 1) := by decide +kernel
theorem dX8_wordOf_280 : decode cX8_wordOf 280 = .ok (.ldc 113, 2) := by decide +kernel
theorem dX8_wordOf_282 : decode cX8_wordOf 282 = .ok (.aload_n 0, 1) := by decide +kernel
theorem dX8_wordOf_283 : decode cX8_wordOf 283 = .ok (.iload_n 1, 1) := by decide +kernel
theorem dX8_wordOf_284 : decode cX8_wordOf 284 = .ok (.iload_n 2, 1) := by decide +kernel
theorem dX8_wordOf_285 : decode cX8_wordOf 285 = .ok (.invokestatic 72, 3) := by decide +kernel
theorem dX8_wordOf_288 : decode cX8_wordOf 288 = .ok (.ifCond .eq 6, 3) := by decide +kernel
theorem dX8_wordOf_291 : decode cX8_wordOf 291 = .ok (.bipush 31, 2) := by decide +kernel
theorem dX8_wordOf_293 : decode cX8_wordOf 293 = .ok (.ireturn, 1) := by decide +kernel
theorem dX8_wordOf_294 : decode cX8_wordOf 294 = .ok (.ldc 115, 2) := by decide +kernel
theorem dX8_wordOf_296 : decode cX8_wordOf 296 = .ok (.aload_n 0, 1) := by decide +kernel
theorem dX8_wordOf_297 : decode cX8_wordOf 297 = .ok (.iload_n 1, 1) := by decide +kernel
theorem dX8_wordOf_298 : decode cX8_wordOf 298 = .ok (.iload_n 2, 1) := by decide +kernel
theorem dX8_wordOf_299 : decode cX8_wordOf 299 = .ok (.invokestatic 72, 3) := by decide +kernel
theorem dX8_wordOf_302 : decode cX8_wordOf 302 = .ok (.ifCond .eq 6, 3) := by decide +kernel
theorem dX8_wordOf_305 : decode cX8_wordOf 305 = .ok (.bipush 32, 2) := by decide +kernel
theorem dX8_wordOf_307 : decode cX8_wordOf 307 = .ok (.ireturn, 1) := by decide +kernel
theorem dX8_wordOf_308 : decode cX8_wordOf 308 = .ok (.ldc 117, 2) := by decide +kernel
theorem dX8_wordOf_310 : decode cX8_wordOf 310 = .ok (.aload_n 0, 1) := by decide +kernel
theorem dX8_wordOf_311 : decode cX8_wordOf 311 = .ok (.iload_n 1, 1) := by decide +kernel
theorem dX8_wordOf_312 : decode cX8_wordOf 312 = .ok (.iload_n 2, 1) := by decide +kernel
theorem dX8_wordOf_313 : decode cX8_wordOf 313 = .ok (.invokestatic 72, 3) := by decide +kernel
theorem dX8_wordOf_316 : decode cX8_wordOf 316 = .ok (.ifCond .eq 6, 3) := by decide +kernel
theorem dX8_wordOf_319 : decode cX8_wordOf 319 = .ok (.bipush 33, 2) := by decide +kernel
theorem dX8_wordOf_321 : decode cX8_wordOf 321 = .ok (.ireturn, 1) := by decide +kernel
theorem dX8_wordOf_322 : decode cX8_wordOf 322 = .ok (.ldc 119, 2) := by decide +kernel
theorem dX8_wordOf_324 : decode cX8_wordOf 324 = .ok (.aload_n 0, 1) := by decide +kernel
theorem dX8_wordOf_325 : decode cX8_wordOf 325 = .ok (.iload_n 1, 1) := by decide +kernel
theorem dX8_wordOf_326 : decode cX8_wordOf 326 = .ok (.iload_n 2, 1) := by decide +kernel
theorem dX8_wordOf_327 : decode cX8_wordOf 327 = .ok (.invokestatic 72, 3) := by decide +kernel
theorem dX8_wordOf_330 : decode cX8_wordOf 330 = .ok (.ifCond .eq 6, 3) := by decide +kernel
theorem dX8_wordOf_333 : decode cX8_wordOf 333 = .ok (.bipush 34, 2) := by decide +kernel
theorem dX8_wordOf_335 : decode cX8_wordOf 335 = .ok (.ireturn, 1) := by decide +kernel
theorem dX8_wordOf_336 : decode cX8_wordOf 336 = .ok (.iconst 1, 1) := by decide +kernel
theorem dX8_wordOf_337 : decode cX8_wordOf 337 = .ok (.ireturn, 1) := by decide +kernel
def f_X8_wordOf (μ : Mem) (a2 : Int32) (a3 : Int32) : Option (Int32) := (f_X8_isWord 0 μ a2 a3).bind fun (q1 : Int32) => if q1 = 0 then ((f_X8_isWord 1 μ a2 a3).bind fun (q2 : Int32) => if q2 = 0 then ((f_X8_isWord 2 μ a2 a3).bind fun (q3 : Int32) => if q3 = 0 then ((f_X8_isWord 3 μ a2 a3).bind fun (q4 : Int32) => if q4 = 0 then ((f_X8_isWord 4 μ a2 a3).bind fun (q5 : Int32) => if q5 = 0 then ((f_X8_isWord 5 μ a2 a3).bind fun (q6 : Int32) => if q6 = 0 then ((f_X8_isWord 6 μ a2 a3).bind fun (q7 : Int32) => if q7 = 0 then ((f_X8_isWord 7 μ a2 a3).bind fun (q8 : Int32) => if q8 = 0 then ((f_X8_isWord 8 μ a2 a3).bind fun (q9 : Int32) => if q9 = 0 then ((f_X8_isWord 9 μ a2 a3).bind fun (q10 : Int32) => if q10 = 0 then ((f_X8_isWord 10 μ a2 a3).bind fun (q11 : Int32) => if q11 = 0 then ((f_X8_isWord 11 μ a2 a3).bind fun (q12 : Int32) => if q12 = 0 then ((f_X8_isWord 12 μ a2 a3).bind fun (q13 : Int32) => if q13 = 0 then ((f_X8_isWord 13 μ a2 a3).bind fun (q14 : Int32) => if q14 = 0 then ((f_X8_isWord 14 μ a2 a3).bind fun (q15 : Int32) => if q15 = 0 then ((f_X8_isWord 15 μ a2 a3).bind fun (q16 : Int32) => if q16 = 0 then ((f_X8_isWord 16 μ a2 a3).bind fun (q17 : Int32) => if q17 = 0 then ((f_X8_isWord 17 μ a2 a3).bind fun (q18 : Int32) => if q18 = 0 then ((f_X8_isWord 18 μ a2 a3).bind fun (q19 : Int32) => if q19 = 0 then ((f_X8_isWord 19 μ a2 a3).bind fun (q20 : Int32) => if q20 = 0 then ((f_X8_isWord 20 μ a2 a3).bind fun (q21 : Int32) => if q21 = 0 then ((f_X8_isWord 21 μ a2 a3).bind fun (q22 : Int32) => if q22 = 0 then ((f_X8_isWord 22 μ a2 a3).bind fun (q23 : Int32) => if q23 = 0 then ((f_X8_isWord 23 μ a2 a3).bind fun (q24 : Int32) => if q24 = 0 then (some 1) else (some 34)) else (some 33)) else (some 32)) else (some 31)) else (some 30)) else (some 29)) else (some 28)) else (some 27)) else (some 26)) else (some 25)) else (some 24)) else (some 23)) else (some 22)) else (some 21)) else (some 20)) else (some 18)) else (some 17)) else (some 16)) else (some 15)) else (some 14)) else (some 13)) else (some 12)) else (some 11)) else (some 10)
set_option maxHeartbeats 4000000 in
set_option maxRecDepth 100000 in
theorem c_X8_wordOf (G : GG) (l : Launch) (μ : Mem) (a2 : Int32) (a3 : Int32) : CR G l yX8_wordOf (.code yX8_wordOf cX8_wordOf 3 (some .int)) 11 [.ref (gad G 0 1), .int a2, .int a3] μ (f_X8_wordOf μ a2 a3) := by
  refine CR.of (own := "SaturdayKeep$Tokens") (L0 := [some (.ref (gad G 0 1)), some (.int a2), some (.int a3)]) rfl rfl rfl (Nat.le_of_ble_eq_true rfl) (fun C hl hC => ?_)
  subst hl
  delta f_X8_wordOf
  refine aw_ldcS (pc := 0) (i := 0) hC rfl dX8_wordOf_0 ?_
  refine aw_aload_n (pc := 2) (i := 0) hC dX8_wordOf_2 rfl rfl ?_
  refine aw_iload_n (pc := 3) (i := 1) hC dX8_wordOf_3 rfl rfl ?_
  refine aw_iload_n (pc := 4) (i := 2) hC dX8_wordOf_4 rfl rfl ?_
  refine aw_callSR (pc := 5) (As := [.ref (gsK G 0), .ref (gad G 0 1), .int a2, .int a3]) hC ms_X8_isWord kw612 (by decide) (c_X8_isWord G C.2.1 0 (by decide) μ a2 a3) rfl (Nat.le_of_ble_eq_true rfl) dX8_wordOf_5 (fun q1 => ?_)
  refine aw_if_eq (pc := 8) (tgt := 14) hC dX8_wordOf_8 (by decide) (fun _ => ?_) (fun _ => ?_)
  · skip
    refine aw_ldcS (pc := 14) (i := 1) hC rfl dX8_wordOf_14 ?_
    refine aw_aload_n (pc := 16) (i := 0) hC dX8_wordOf_16 rfl rfl ?_
    refine aw_iload_n (pc := 17) (i := 1) hC dX8_wordOf_17 rfl rfl ?_
    refine aw_iload_n (pc := 18) (i := 2) hC dX8_wordOf_18 rfl rfl ?_
    refine aw_callSR (pc := 19) (As := [.ref (gsK G 1), .ref (gad G 0 1), .int a2, .int a3]) hC ms_X8_isWord kw612 (by decide) (c_X8_isWord G C.2.1 1 (by decide) μ a2 a3) rfl (Nat.le_of_ble_eq_true rfl) dX8_wordOf_19 (fun q2 => ?_)
    refine aw_if_eq (pc := 22) (tgt := 28) hC dX8_wordOf_22 (by decide) (fun _ => ?_) (fun _ => ?_)
    · skip
      refine aw_ldcS (pc := 28) (i := 2) hC rfl dX8_wordOf_28 ?_
      refine aw_aload_n (pc := 30) (i := 0) hC dX8_wordOf_30 rfl rfl ?_
      refine aw_iload_n (pc := 31) (i := 1) hC dX8_wordOf_31 rfl rfl ?_
      refine aw_iload_n (pc := 32) (i := 2) hC dX8_wordOf_32 rfl rfl ?_
      refine aw_callSR (pc := 33) (As := [.ref (gsK G 2), .ref (gad G 0 1), .int a2, .int a3]) hC ms_X8_isWord kw612 (by decide) (c_X8_isWord G C.2.1 2 (by decide) μ a2 a3) rfl (Nat.le_of_ble_eq_true rfl) dX8_wordOf_33 (fun q3 => ?_)
      refine aw_if_eq (pc := 36) (tgt := 42) hC dX8_wordOf_36 (by decide) (fun _ => ?_) (fun _ => ?_)
      · skip
        refine aw_ldcS (pc := 42) (i := 3) hC rfl dX8_wordOf_42 ?_
        refine aw_aload_n (pc := 44) (i := 0) hC dX8_wordOf_44 rfl rfl ?_
        refine aw_iload_n (pc := 45) (i := 1) hC dX8_wordOf_45 rfl rfl ?_
        refine aw_iload_n (pc := 46) (i := 2) hC dX8_wordOf_46 rfl rfl ?_
        refine aw_callSR (pc := 47) (As := [.ref (gsK G 3), .ref (gad G 0 1), .int a2, .int a3]) hC ms_X8_isWord kw612 (by decide) (c_X8_isWord G C.2.1 3 (by decide) μ a2 a3) rfl (Nat.le_of_ble_eq_true rfl) dX8_wordOf_47 (fun q4 => ?_)
        refine aw_if_eq (pc := 50) (tgt := 56) hC dX8_wordOf_50 (by decide) (fun _ => ?_) (fun _ => ?_)
        · skip
          refine aw_ldcS (pc := 56) (i := 4) hC rfl dX8_wordOf_56 ?_
          refine aw_aload_n (pc := 58) (i := 0) hC dX8_wordOf_58 rfl rfl ?_
          refine aw_iload_n (pc := 59) (i := 1) hC dX8_wordOf_59 rfl rfl ?_
          refine aw_iload_n (pc := 60) (i := 2) hC dX8_wordOf_60 rfl rfl ?_
          refine aw_callSR (pc := 61) (As := [.ref (gsK G 4), .ref (gad G 0 1), .int a2, .int a3]) hC ms_X8_isWord kw612 (by decide) (c_X8_isWord G C.2.1 4 (by decide) μ a2 a3) rfl (Nat.le_of_ble_eq_true rfl) dX8_wordOf_61 (fun q5 => ?_)
          refine aw_if_eq (pc := 64) (tgt := 70) hC dX8_wordOf_64 (by decide) (fun _ => ?_) (fun _ => ?_)
          · skip
            refine aw_ldcS (pc := 70) (i := 5) hC rfl dX8_wordOf_70 ?_
            refine aw_aload_n (pc := 72) (i := 0) hC dX8_wordOf_72 rfl rfl ?_
            refine aw_iload_n (pc := 73) (i := 1) hC dX8_wordOf_73 rfl rfl ?_
            refine aw_iload_n (pc := 74) (i := 2) hC dX8_wordOf_74 rfl rfl ?_
            refine aw_callSR (pc := 75) (As := [.ref (gsK G 5), .ref (gad G 0 1), .int a2, .int a3]) hC ms_X8_isWord kw612 (by decide) (c_X8_isWord G C.2.1 5 (by decide) μ a2 a3) rfl (Nat.le_of_ble_eq_true rfl) dX8_wordOf_75 (fun q6 => ?_)
            refine aw_if_eq (pc := 78) (tgt := 84) hC dX8_wordOf_78 (by decide) (fun _ => ?_) (fun _ => ?_)
            · skip
              refine aw_ldcS (pc := 84) (i := 6) hC rfl dX8_wordOf_84 ?_
              refine aw_aload_n (pc := 86) (i := 0) hC dX8_wordOf_86 rfl rfl ?_
              refine aw_iload_n (pc := 87) (i := 1) hC dX8_wordOf_87 rfl rfl ?_
              refine aw_iload_n (pc := 88) (i := 2) hC dX8_wordOf_88 rfl rfl ?_
              refine aw_callSR (pc := 89) (As := [.ref (gsK G 6), .ref (gad G 0 1), .int a2, .int a3]) hC ms_X8_isWord kw612 (by decide) (c_X8_isWord G C.2.1 6 (by decide) μ a2 a3) rfl (Nat.le_of_ble_eq_true rfl) dX8_wordOf_89 (fun q7 => ?_)
              refine aw_if_eq (pc := 92) (tgt := 98) hC dX8_wordOf_92 (by decide) (fun _ => ?_) (fun _ => ?_)
              · skip
                refine aw_ldcS (pc := 98) (i := 7) hC rfl dX8_wordOf_98 ?_
                refine aw_aload_n (pc := 100) (i := 0) hC dX8_wordOf_100 rfl rfl ?_
                refine aw_iload_n (pc := 101) (i := 1) hC dX8_wordOf_101 rfl rfl ?_
                refine aw_iload_n (pc := 102) (i := 2) hC dX8_wordOf_102 rfl rfl ?_
                refine aw_callSR (pc := 103) (As := [.ref (gsK G 7), .ref (gad G 0 1), .int a2, .int a3]) hC ms_X8_isWord kw612 (by decide) (c_X8_isWord G C.2.1 7 (by decide) μ a2 a3) rfl (Nat.le_of_ble_eq_true rfl) dX8_wordOf_103 (fun q8 => ?_)
                refine aw_if_eq (pc := 106) (tgt := 112) hC dX8_wordOf_106 (by decide) (fun _ => ?_) (fun _ => ?_)
                · skip
                  refine aw_ldcS (pc := 112) (i := 8) hC rfl dX8_wordOf_112 ?_
                  refine aw_aload_n (pc := 114) (i := 0) hC dX8_wordOf_114 rfl rfl ?_
                  refine aw_iload_n (pc := 115) (i := 1) hC dX8_wordOf_115 rfl rfl ?_
                  refine aw_iload_n (pc := 116) (i := 2) hC dX8_wordOf_116 rfl rfl ?_
                  refine aw_callSR (pc := 117) (As := [.ref (gsK G 8), .ref (gad G 0 1), .int a2, .int a3]) hC ms_X8_isWord kw612 (by decide) (c_X8_isWord G C.2.1 8 (by decide) μ a2 a3) rfl (Nat.le_of_ble_eq_true rfl) dX8_wordOf_117 (fun q9 => ?_)
                  refine aw_if_eq (pc := 120) (tgt := 126) hC dX8_wordOf_120 (by decide) (fun _ => ?_) (fun _ => ?_)
                  · skip
                    refine aw_ldcS (pc := 126) (i := 9) hC rfl dX8_wordOf_126 ?_
                    refine aw_aload_n (pc := 128) (i := 0) hC dX8_wordOf_128 rfl rfl ?_
                    refine aw_iload_n (pc := 129) (i := 1) hC dX8_wordOf_129 rfl rfl ?_
                    refine aw_iload_n (pc := 130) (i := 2) hC dX8_wordOf_130 rfl rfl ?_
                    refine aw_callSR (pc := 131) (As := [.ref (gsK G 9), .ref (gad G 0 1), .int a2, .int a3]) hC ms_X8_isWord kw612 (by decide) (c_X8_isWord G C.2.1 9 (by decide) μ a2 a3) rfl (Nat.le_of_ble_eq_true rfl) dX8_wordOf_131 (fun q10 => ?_)
                    refine aw_if_eq (pc := 134) (tgt := 140) hC dX8_wordOf_134 (by decide) (fun _ => ?_) (fun _ => ?_)
                    · skip
                      refine aw_ldcS (pc := 140) (i := 10) hC rfl dX8_wordOf_140 ?_
                      refine aw_aload_n (pc := 142) (i := 0) hC dX8_wordOf_142 rfl rfl ?_
                      refine aw_iload_n (pc := 143) (i := 1) hC dX8_wordOf_143 rfl rfl ?_
                      refine aw_iload_n (pc := 144) (i := 2) hC dX8_wordOf_144 rfl rfl ?_
                      refine aw_callSR (pc := 145) (As := [.ref (gsK G 10), .ref (gad G 0 1), .int a2, .int a3]) hC ms_X8_isWord kw612 (by decide) (c_X8_isWord G C.2.1 10 (by decide) μ a2 a3) rfl (Nat.le_of_ble_eq_true rfl) dX8_wordOf_145 (fun q11 => ?_)
                      refine aw_if_eq (pc := 148) (tgt := 154) hC dX8_wordOf_148 (by decide) (fun _ => ?_) (fun _ => ?_)
                      · skip
                        refine aw_ldcS (pc := 154) (i := 11) hC rfl dX8_wordOf_154 ?_
                        refine aw_aload_n (pc := 156) (i := 0) hC dX8_wordOf_156 rfl rfl ?_
                        refine aw_iload_n (pc := 157) (i := 1) hC dX8_wordOf_157 rfl rfl ?_
                        refine aw_iload_n (pc := 158) (i := 2) hC dX8_wordOf_158 rfl rfl ?_
                        refine aw_callSR (pc := 159) (As := [.ref (gsK G 11), .ref (gad G 0 1), .int a2, .int a3]) hC ms_X8_isWord kw612 (by decide) (c_X8_isWord G C.2.1 11 (by decide) μ a2 a3) rfl (Nat.le_of_ble_eq_true rfl) dX8_wordOf_159 (fun q12 => ?_)
                        refine aw_if_eq (pc := 162) (tgt := 168) hC dX8_wordOf_162 (by decide) (fun _ => ?_) (fun _ => ?_)
                        · skip
                          refine aw_ldcS (pc := 168) (i := 12) hC rfl dX8_wordOf_168 ?_
                          refine aw_aload_n (pc := 170) (i := 0) hC dX8_wordOf_170 rfl rfl ?_
                          refine aw_iload_n (pc := 171) (i := 1) hC dX8_wordOf_171 rfl rfl ?_
                          refine aw_iload_n (pc := 172) (i := 2) hC dX8_wordOf_172 rfl rfl ?_
                          refine aw_callSR (pc := 173) (As := [.ref (gsK G 12), .ref (gad G 0 1), .int a2, .int a3]) hC ms_X8_isWord kw612 (by decide) (c_X8_isWord G C.2.1 12 (by decide) μ a2 a3) rfl (Nat.le_of_ble_eq_true rfl) dX8_wordOf_173 (fun q13 => ?_)
                          refine aw_if_eq (pc := 176) (tgt := 182) hC dX8_wordOf_176 (by decide) (fun _ => ?_) (fun _ => ?_)
                          · skip
                            refine aw_ldcS (pc := 182) (i := 13) hC rfl dX8_wordOf_182 ?_
                            refine aw_aload_n (pc := 184) (i := 0) hC dX8_wordOf_184 rfl rfl ?_
                            refine aw_iload_n (pc := 185) (i := 1) hC dX8_wordOf_185 rfl rfl ?_
                            refine aw_iload_n (pc := 186) (i := 2) hC dX8_wordOf_186 rfl rfl ?_
                            refine aw_callSR (pc := 187) (As := [.ref (gsK G 13), .ref (gad G 0 1), .int a2, .int a3]) hC ms_X8_isWord kw612 (by decide) (c_X8_isWord G C.2.1 13 (by decide) μ a2 a3) rfl (Nat.le_of_ble_eq_true rfl) dX8_wordOf_187 (fun q14 => ?_)
                            refine aw_if_eq (pc := 190) (tgt := 196) hC dX8_wordOf_190 (by decide) (fun _ => ?_) (fun _ => ?_)
                            · skip
                              refine aw_ldcS (pc := 196) (i := 14) hC rfl dX8_wordOf_196 ?_
                              refine aw_aload_n (pc := 198) (i := 0) hC dX8_wordOf_198 rfl rfl ?_
                              refine aw_iload_n (pc := 199) (i := 1) hC dX8_wordOf_199 rfl rfl ?_
                              refine aw_iload_n (pc := 200) (i := 2) hC dX8_wordOf_200 rfl rfl ?_
                              refine aw_callSR (pc := 201) (As := [.ref (gsK G 14), .ref (gad G 0 1), .int a2, .int a3]) hC ms_X8_isWord kw612 (by decide) (c_X8_isWord G C.2.1 14 (by decide) μ a2 a3) rfl (Nat.le_of_ble_eq_true rfl) dX8_wordOf_201 (fun q15 => ?_)
                              refine aw_if_eq (pc := 204) (tgt := 210) hC dX8_wordOf_204 (by decide) (fun _ => ?_) (fun _ => ?_)
                              · skip
                                refine aw_ldcS (pc := 210) (i := 15) hC rfl dX8_wordOf_210 ?_
                                refine aw_aload_n (pc := 212) (i := 0) hC dX8_wordOf_212 rfl rfl ?_
                                refine aw_iload_n (pc := 213) (i := 1) hC dX8_wordOf_213 rfl rfl ?_
                                refine aw_iload_n (pc := 214) (i := 2) hC dX8_wordOf_214 rfl rfl ?_
                                refine aw_callSR (pc := 215) (As := [.ref (gsK G 15), .ref (gad G 0 1), .int a2, .int a3]) hC ms_X8_isWord kw612 (by decide) (c_X8_isWord G C.2.1 15 (by decide) μ a2 a3) rfl (Nat.le_of_ble_eq_true rfl) dX8_wordOf_215 (fun q16 => ?_)
                                refine aw_if_eq (pc := 218) (tgt := 224) hC dX8_wordOf_218 (by decide) (fun _ => ?_) (fun _ => ?_)
                                · skip
                                  refine aw_ldcS (pc := 224) (i := 16) hC rfl dX8_wordOf_224 ?_
                                  refine aw_aload_n (pc := 226) (i := 0) hC dX8_wordOf_226 rfl rfl ?_
                                  refine aw_iload_n (pc := 227) (i := 1) hC dX8_wordOf_227 rfl rfl ?_
                                  refine aw_iload_n (pc := 228) (i := 2) hC dX8_wordOf_228 rfl rfl ?_
                                  refine aw_callSR (pc := 229) (As := [.ref (gsK G 16), .ref (gad G 0 1), .int a2, .int a3]) hC ms_X8_isWord kw612 (by decide) (c_X8_isWord G C.2.1 16 (by decide) μ a2 a3) rfl (Nat.le_of_ble_eq_true rfl) dX8_wordOf_229 (fun q17 => ?_)
                                  refine aw_if_eq (pc := 232) (tgt := 238) hC dX8_wordOf_232 (by decide) (fun _ => ?_) (fun _ => ?_)
                                  · skip
                                    refine aw_ldcS (pc := 238) (i := 17) hC rfl dX8_wordOf_238 ?_
                                    refine aw_aload_n (pc := 240) (i := 0) hC dX8_wordOf_240 rfl rfl ?_
                                    refine aw_iload_n (pc := 241) (i := 1) hC dX8_wordOf_241 rfl rfl ?_
                                    refine aw_iload_n (pc := 242) (i := 2) hC dX8_wordOf_242 rfl rfl ?_
                                    refine aw_callSR (pc := 243) (As := [.ref (gsK G 17), .ref (gad G 0 1), .int a2, .int a3]) hC ms_X8_isWord kw612 (by decide) (c_X8_isWord G C.2.1 17 (by decide) μ a2 a3) rfl (Nat.le_of_ble_eq_true rfl) dX8_wordOf_243 (fun q18 => ?_)
                                    refine aw_if_eq (pc := 246) (tgt := 252) hC dX8_wordOf_246 (by decide) (fun _ => ?_) (fun _ => ?_)
                                    · skip
                                      refine aw_ldcS (pc := 252) (i := 18) hC rfl dX8_wordOf_252 ?_
                                      refine aw_aload_n (pc := 254) (i := 0) hC dX8_wordOf_254 rfl rfl ?_
                                      refine aw_iload_n (pc := 255) (i := 1) hC dX8_wordOf_255 rfl rfl ?_
                                      refine aw_iload_n (pc := 256) (i := 2) hC dX8_wordOf_256 rfl rfl ?_
                                      refine aw_callSR (pc := 257) (As := [.ref (gsK G 18), .ref (gad G 0 1), .int a2, .int a3]) hC ms_X8_isWord kw612 (by decide) (c_X8_isWord G C.2.1 18 (by decide) μ a2 a3) rfl (Nat.le_of_ble_eq_true rfl) dX8_wordOf_257 (fun q19 => ?_)
                                      refine aw_if_eq (pc := 260) (tgt := 266) hC dX8_wordOf_260 (by decide) (fun _ => ?_) (fun _ => ?_)
                                      · skip
                                        refine aw_ldcS (pc := 266) (i := 19) hC rfl dX8_wordOf_266 ?_
                                        refine aw_aload_n (pc := 268) (i := 0) hC dX8_wordOf_268 rfl rfl ?_
                                        refine aw_iload_n (pc := 269) (i := 1) hC dX8_wordOf_269 rfl rfl ?_
                                        refine aw_iload_n (pc := 270) (i := 2) hC dX8_wordOf_270 rfl rfl ?_
                                        refine aw_callSR (pc := 271) (As := [.ref (gsK G 19), .ref (gad G 0 1), .int a2, .int a3]) hC ms_X8_isWord kw612 (by decide) (c_X8_isWord G C.2.1 19 (by decide) μ a2 a3) rfl (Nat.le_of_ble_eq_true rfl) dX8_wordOf_271 (fun q20 => ?_)
                                        refine aw_if_eq (pc := 274) (tgt := 280) hC dX8_wordOf_274 (by decide) (fun _ => ?_) (fun _ => ?_)
                                        · skip
                                          refine aw_ldcS (pc := 280) (i := 20) hC rfl dX8_wordOf_280 ?_
                                          refine aw_aload_n (pc := 282) (i := 0) hC dX8_wordOf_282 rfl rfl ?_
                                          refine aw_iload_n (pc := 283) (i := 1) hC dX8_wordOf_283 rfl rfl ?_
                                          refine aw_iload_n (pc := 284) (i := 2) hC dX8_wordOf_284 rfl rfl ?_
                                          refine aw_callSR (pc := 285) (As := [.ref (gsK G 20), .ref (gad G 0 1), .int a2, .int a3]) hC ms_X8_isWord kw612 (by decide) (c_X8_isWord G C.2.1 20 (by decide) μ a2 a3) rfl (Nat.le_of_ble_eq_true rfl) dX8_wordOf_285 (fun q21 => ?_)
                                          refine aw_if_eq (pc := 288) (tgt := 294) hC dX8_wordOf_288 (by decide) (fun _ => ?_) (fun _ => ?_)
                                          · skip
                                            refine aw_ldcS (pc := 294) (i := 21) hC rfl dX8_wordOf_294 ?_
                                            refine aw_aload_n (pc := 296) (i := 0) hC dX8_wordOf_296 rfl rfl ?_
                                            refine aw_iload_n (pc := 297) (i := 1) hC dX8_wordOf_297 rfl rfl ?_
                                            refine aw_iload_n (pc := 298) (i := 2) hC dX8_wordOf_298 rfl rfl ?_
                                            refine aw_callSR (pc := 299) (As := [.ref (gsK G 21), .ref (gad G 0 1), .int a2, .int a3]) hC ms_X8_isWord kw612 (by decide) (c_X8_isWord G C.2.1 21 (by decide) μ a2 a3) rfl (Nat.le_of_ble_eq_true rfl) dX8_wordOf_299 (fun q22 => ?_)
                                            refine aw_if_eq (pc := 302) (tgt := 308) hC dX8_wordOf_302 (by decide) (fun _ => ?_) (fun _ => ?_)
                                            · skip
                                              refine aw_ldcS (pc := 308) (i := 22) hC rfl dX8_wordOf_308 ?_
                                              refine aw_aload_n (pc := 310) (i := 0) hC dX8_wordOf_310 rfl rfl ?_
                                              refine aw_iload_n (pc := 311) (i := 1) hC dX8_wordOf_311 rfl rfl ?_
                                              refine aw_iload_n (pc := 312) (i := 2) hC dX8_wordOf_312 rfl rfl ?_
                                              refine aw_callSR (pc := 313) (As := [.ref (gsK G 22), .ref (gad G 0 1), .int a2, .int a3]) hC ms_X8_isWord kw612 (by decide) (c_X8_isWord G C.2.1 22 (by decide) μ a2 a3) rfl (Nat.le_of_ble_eq_true rfl) dX8_wordOf_313 (fun q23 => ?_)
                                              refine aw_if_eq (pc := 316) (tgt := 322) hC dX8_wordOf_316 (by decide) (fun _ => ?_) (fun _ => ?_)
                                              · skip
                                                refine aw_ldcS (pc := 322) (i := 23) hC rfl dX8_wordOf_322 ?_
                                                refine aw_aload_n (pc := 324) (i := 0) hC dX8_wordOf_324 rfl rfl ?_
                                                refine aw_iload_n (pc := 325) (i := 1) hC dX8_wordOf_325 rfl rfl ?_
                                                refine aw_iload_n (pc := 326) (i := 2) hC dX8_wordOf_326 rfl rfl ?_
                                                refine aw_callSR (pc := 327) (As := [.ref (gsK G 23), .ref (gad G 0 1), .int a2, .int a3]) hC ms_X8_isWord kw612 (by decide) (c_X8_isWord G C.2.1 23 (by decide) μ a2 a3) rfl (Nat.le_of_ble_eq_true rfl) dX8_wordOf_327 (fun q24 => ?_)
                                                refine aw_if_eq (pc := 330) (tgt := 336) hC dX8_wordOf_330 (by decide) (fun _ => ?_) (fun _ => ?_)
                                                · skip
                                                  refine aw_iconst (pc := 336) (v := 1) hC dX8_wordOf_336 ic1 ?_
                                                  exact aw_iretR hC dX8_wordOf_337
                                                · skip
                                                  refine aw_bipush (pc := 333) (v := 34) hC dX8_wordOf_333 bc34 ?_
                                                  exact aw_iretR hC dX8_wordOf_335
                                              · skip
                                                refine aw_bipush (pc := 319) (v := 33) hC dX8_wordOf_319 bc33 ?_
                                                exact aw_iretR hC dX8_wordOf_321
                                            · skip
                                              refine aw_bipush (pc := 305) (v := 32) hC dX8_wordOf_305 bc32 ?_
                                              exact aw_iretR hC dX8_wordOf_307
                                          · skip
                                            refine aw_bipush (pc := 291) (v := 31) hC dX8_wordOf_291 bc31 ?_
                                            exact aw_iretR hC dX8_wordOf_293
                                        · skip
                                          refine aw_bipush (pc := 277) (v := 30) hC dX8_wordOf_277 bc30 ?_
                                          exact aw_iretR hC dX8_wordOf_279
                                      · skip
                                        refine aw_bipush (pc := 263) (v := 29) hC dX8_wordOf_263 bc29 ?_
                                        exact aw_iretR hC dX8_wordOf_265
                                    · skip
                                      refine aw_bipush (pc := 249) (v := 28) hC dX8_wordOf_249 bc28 ?_
                                      exact aw_iretR hC dX8_wordOf_251
                                  · skip
                                    refine aw_bipush (pc := 235) (v := 27) hC dX8_wordOf_235 bc27 ?_
                                    exact aw_iretR hC dX8_wordOf_237
                                · skip
                                  refine aw_bipush (pc := 221) (v := 26) hC dX8_wordOf_221 bc26 ?_
                                  exact aw_iretR hC dX8_wordOf_223
                              · skip
                                refine aw_bipush (pc := 207) (v := 25) hC dX8_wordOf_207 bc25 ?_
                                exact aw_iretR hC dX8_wordOf_209
                            · skip
                              refine aw_bipush (pc := 193) (v := 24) hC dX8_wordOf_193 bc24 ?_
                              exact aw_iretR hC dX8_wordOf_195
                          · skip
                            refine aw_bipush (pc := 179) (v := 23) hC dX8_wordOf_179 bc23 ?_
                            exact aw_iretR hC dX8_wordOf_181
                        · skip
                          refine aw_bipush (pc := 165) (v := 22) hC dX8_wordOf_165 bc22 ?_
                          exact aw_iretR hC dX8_wordOf_167
                      · skip
                        refine aw_bipush (pc := 151) (v := 21) hC dX8_wordOf_151 bc21 ?_
                        exact aw_iretR hC dX8_wordOf_153
                    · skip
                      refine aw_bipush (pc := 137) (v := 20) hC dX8_wordOf_137 bc20 ?_
                      exact aw_iretR hC dX8_wordOf_139
                  · skip
                    refine aw_bipush (pc := 123) (v := 18) hC dX8_wordOf_123 bc18 ?_
                    exact aw_iretR hC dX8_wordOf_125
                · skip
                  refine aw_bipush (pc := 109) (v := 17) hC dX8_wordOf_109 bc17 ?_
                  exact aw_iretR hC dX8_wordOf_111
              · skip
                refine aw_bipush (pc := 95) (v := 16) hC dX8_wordOf_95 bc16 ?_
                exact aw_iretR hC dX8_wordOf_97
            · skip
              refine aw_bipush (pc := 81) (v := 15) hC dX8_wordOf_81 bc15 ?_
              exact aw_iretR hC dX8_wordOf_83
          · skip
            refine aw_bipush (pc := 67) (v := 14) hC dX8_wordOf_67 bc14 ?_
            exact aw_iretR hC dX8_wordOf_69
        · skip
          refine aw_bipush (pc := 53) (v := 13) hC dX8_wordOf_53 bc13 ?_
          exact aw_iretR hC dX8_wordOf_55
      · skip
        refine aw_bipush (pc := 39) (v := 12) hC dX8_wordOf_39 bc12 ?_
        exact aw_iretR hC dX8_wordOf_41
    · skip
      refine aw_bipush (pc := 25) (v := 11) hC dX8_wordOf_25 bc11 ?_
      exact aw_iretR hC dX8_wordOf_27
  · skip
    refine aw_bipush (pc := 11) (v := 10) hC dX8_wordOf_11 bc10 ?_
    exact aw_iretR hC dX8_wordOf_13
theorem dX8_numberOf_0 : decode cX8_numberOf 0 = .ok (.iconst 0, 1) := by decide +kernel
theorem dX8_numberOf_1 : decode cX8_numberOf 1 = .ok (.istore_n 3, 1) := by decide +kernel
theorem dX8_numberOf_2 : decode cX8_numberOf 2 = .ok (.iload_n 1, 1) := by decide +kernel
theorem dX8_numberOf_3 : decode cX8_numberOf 3 = .ok (.istore 4, 2) := by decide +kernel
theorem dX8_numberOf_5 : decode cX8_numberOf 5 = .ok (.iload 4, 2) := by decide +kernel
theorem dX8_numberOf_7 : decode cX8_numberOf 7 = .ok (.iload_n 2, 1) := by decide +kernel
theorem dX8_numberOf_8 : decode cX8_numberOf 8 = .ok (.if_icmp .ge 24, 3) := by decide +kernel
theorem dX8_numberOf_11 : decode cX8_numberOf 11 = .ok (.iload_n 3, 1) := by decide +kernel
theorem dX8_numberOf_12 : decode cX8_numberOf 12 = .ok (.bipush 10, 2) := by decide +kernel
theorem dX8_numberOf_14 : decode cX8_numberOf 14 = .ok (.imul, 1) := by decide +kernel
theorem dX8_numberOf_15 : decode cX8_numberOf 15 = .ok (.aload_n 0, 1) := by decide +kernel
theorem dX8_numberOf_16 : decode cX8_numberOf 16 = .ok (.iload 4, 2) := by decide +kernel
theorem dX8_numberOf_18 : decode cX8_numberOf 18 = .ok (.invokevirtual 43, 3) := by decide +kernel
theorem dX8_numberOf_21 : decode cX8_numberOf 21 = .ok (.iadd, 1) := by decide +kernel
theorem dX8_numberOf_22 : decode cX8_numberOf 22 = .ok (.bipush 48, 2) := by decide +kernel
theorem dX8_numberOf_24 : decode cX8_numberOf 24 = .ok (.isub, 1) := by decide +kernel
theorem dX8_numberOf_25 : decode cX8_numberOf 25 = .ok (.istore_n 3, 1) := by decide +kernel
theorem dX8_numberOf_26 : decode cX8_numberOf 26 = .ok (.iinc 4 1, 3) := by decide +kernel
theorem dX8_numberOf_29 : decode cX8_numberOf 29 = .ok (.goto (-24), 3) := by decide +kernel
theorem dX8_numberOf_32 : decode cX8_numberOf 32 = .ok (.iload_n 3, 1) := by decide +kernel
theorem dX8_numberOf_33 : decode cX8_numberOf 33 = .ok (.ireturn, 1) := by decide +kernel
def lp_X8_numberOf_5 (a3 : Int32) (μ : Mem) : Nat → Int32 → Int32 → Option (Int32)
  | 0, _, _ => none
  | n + 1, x1, x2 => if a3 ≤ x2 then (some x1) else ((f_X7_at μ x2).bind fun (q3 : Int32) => lp_X8_numberOf_5 a3 μ n (((x1 * 10) + q3) - 48) (x2 + 1))
def f_X8_numberOf (μ : Mem) (a2 : Int32) (a3 : Int32) : Option (Int32) := lp_X8_numberOf_5 a3 μ 4096 0 a2
set_option maxHeartbeats 4000000 in
set_option maxRecDepth 100000 in
theorem c_X8_numberOf (G : GG) (l : Launch) (μ : Mem) (a2 : Int32) (a3 : Int32) : CR G l yX8_numberOf (.code yX8_numberOf cX8_numberOf 5 (some .int)) 2 [.ref (gad G 0 1), .int a2, .int a3] μ (f_X8_numberOf μ a2 a3) := by
  refine CR.of (own := "SaturdayKeep$Tokens") (L0 := [some (.ref (gad G 0 1)), some (.int a2), some (.int a3), none, none]) rfl rfl rfl (Nat.le_of_ble_eq_true rfl) (fun C hl hC => ?_)
  subst hl
  delta f_X8_numberOf
  refine aw_iconst (pc := 0) (v := 0) hC dX8_numberOf_0 ic0 ?_
  refine aw_istore_n (pc := 1) (i := 3) hC dX8_numberOf_1 rfl rfl (by decide) ?_
  refine aw_iload_n (pc := 2) (i := 1) hC dX8_numberOf_2 rfl rfl ?_
  refine aw_istore (pc := 3) hC dX8_numberOf_3 rfl (by decide) ?_
  have hL5 : ∀ (n : Nat) (x1 : Int32) (x2 : Int32), AW G C (qR G C 0 0 μ) 0 0 5 μ 5 [some (.ref (gad G 0 1)), none, some (.int a3), some (.int x1), some (.int x2)] [] (lp_X8_numberOf_5 a3 μ n x1 x2) := by
    intro n
    induction n with
    | zero => intro x1 x2; exact aw_none
    | succ n ih =>
      intro x1 x2
      rw [lp_X8_numberOf_5]
      refine aw_iload (pc := 5) hC dX8_numberOf_5 rfl ?_
      refine aw_iload_n (pc := 7) (i := 2) hC dX8_numberOf_7 rfl rfl ?_
      refine aw_icmp_ge (pc := 8) (tgt := 32) hC dX8_numberOf_8 (by decide) (fun _ => ?_) (fun _ => ?_)
      · skip
        refine aw_iload_n (pc := 32) (i := 3) hC dX8_numberOf_32 rfl rfl ?_
        exact aw_iretR hC dX8_numberOf_33
      · skip
        refine aw_iload_n (pc := 11) (i := 3) hC dX8_numberOf_11 rfl rfl ?_
        refine aw_bipush (pc := 12) (v := 10) hC dX8_numberOf_12 bc10 ?_
        refine aw_imul (pc := 14) hC dX8_numberOf_14 ?_
        refine aw_aload_n (pc := 15) (i := 0) hC dX8_numberOf_15 rfl rfl ?_
        refine aw_iload (pc := 16) hC dX8_numberOf_16 rfl ?_
        refine aw_callVR (pc := 18) (As := [.int x2]) hC mb_X7_at kw593 (by decide) (c_X7_at G C.2.1   μ x2) (v0 (j := 1) (by decide)) rfl rfl rfl (Nat.le_of_ble_eq_true rfl) dX8_numberOf_18 (fun q3 => ?_)
        refine aw_iadd (pc := 21) hC dX8_numberOf_21 ?_
        refine aw_bipush (pc := 22) (v := 48) hC dX8_numberOf_22 bc48 ?_
        refine aw_isub (pc := 24) hC dX8_numberOf_24 ?_
        refine aw_istore_n (pc := 25) (i := 3) hC dX8_numberOf_25 rfl rfl (by decide) ?_
        refine aw_iinc (pc := 26) (v := x2 + 1) hC dX8_numberOf_26 rfl (congrArg (HAdd.hAdd _) ic1) rfl (by decide) ?_
        refine aw_goto (pc := 29) (tgt := 5) hC dX8_numberOf_29 (by decide) ?_
        exact ih (((x1 * 10) + q3) - 48) (x2 + 1)
  exact aw_drop [1] (hL5 4096 0 a2)
theorem dX8_signOf_0 : decode cX8_signOf 0 = .ok (.iload_n 0, 1) := by decide +kernel
theorem dX8_signOf_1 : decode cX8_signOf 1 = .ok (.lookupswitch 74 #[(40, 61), (41, 63), (43, 71), (59, 59), (60, 65), (62, 68)], 59) := by decide +kernel
theorem dX8_signOf_60 : decode cX8_signOf 60 = .ok (.iconst 3, 1) := by decide +kernel
theorem dX8_signOf_61 : decode cX8_signOf 61 = .ok (.ireturn, 1) := by decide +kernel
theorem dX8_signOf_62 : decode cX8_signOf 62 = .ok (.iconst 4, 1) := by decide +kernel
theorem dX8_signOf_63 : decode cX8_signOf 63 = .ok (.ireturn, 1) := by decide +kernel
theorem dX8_signOf_64 : decode cX8_signOf 64 = .ok (.iconst 5, 1) := by decide +kernel
theorem dX8_signOf_65 : decode cX8_signOf 65 = .ok (.ireturn, 1) := by decide +kernel
theorem dX8_signOf_66 : decode cX8_signOf 66 = .ok (.bipush 6, 2) := by decide +kernel
theorem dX8_signOf_68 : decode cX8_signOf 68 = .ok (.ireturn, 1) := by decide +kernel
theorem dX8_signOf_69 : decode cX8_signOf 69 = .ok (.bipush 7, 2) := by decide +kernel
theorem dX8_signOf_71 : decode cX8_signOf 71 = .ok (.ireturn, 1) := by decide +kernel
theorem dX8_signOf_72 : decode cX8_signOf 72 = .ok (.bipush 8, 2) := by decide +kernel
theorem dX8_signOf_74 : decode cX8_signOf 74 = .ok (.ireturn, 1) := by decide +kernel
theorem dX8_signOf_75 : decode cX8_signOf 75 = .ok (.iconst 1, 1) := by decide +kernel
theorem dX8_signOf_76 : decode cX8_signOf 76 = .ok (.ireturn, 1) := by decide +kernel
def f_X8_signOf (a1 : Int32) : Option (Int32) := if a1 = 40 then (some 4) else (if a1 = 41 then (some 5) else (if a1 = 43 then (some 8) else (if a1 = 59 then (some 3) else (if a1 = 60 then (some 6) else (if a1 = 62 then (some 7) else (some 1))))))
set_option maxHeartbeats 4000000 in
set_option maxRecDepth 100000 in
theorem c_X8_signOf (G : GG) (l : Launch) (μ : Mem) (a1 : Int32) : CR G l yX8_signOf (.code yX8_signOf cX8_signOf 1 (some .int)) 1 [.int a1] μ (f_X8_signOf a1) := by
  refine CR.of (own := "SaturdayKeep$Tokens") (L0 := [some (.int a1)]) rfl rfl rfl (Nat.le_of_ble_eq_true rfl) (fun C hl hC => ?_)
  subst hl
  delta f_X8_signOf
  refine aw_iload_n (pc := 0) (i := 0) hC dX8_signOf_0 rfl rfl ?_
  refine aw_case (k := 40) (fun hc1 => ?_) (fun hn1_0 => ?_)
  · skip
    refine aw_lswIn (pc := 1) (tgt := 62) (off := 61) hC dX8_signOf_1 (by decide) (by rw [hc1]; decide) (by decide) ?_
    refine aw_iconst (pc := 62) (v := 4) hC dX8_signOf_62 ic4 ?_
    exact aw_iretR hC dX8_signOf_63
  refine aw_case (k := 41) (fun hc1 => ?_) (fun hn1_1 => ?_)
  · skip
    refine aw_lswIn (pc := 1) (tgt := 64) (off := 63) hC dX8_signOf_1 (by decide) (by rw [hc1]; decide) (by decide) ?_
    refine aw_iconst (pc := 64) (v := 5) hC dX8_signOf_64 ic5 ?_
    exact aw_iretR hC dX8_signOf_65
  refine aw_case (k := 43) (fun hc1 => ?_) (fun hn1_2 => ?_)
  · skip
    refine aw_lswIn (pc := 1) (tgt := 72) (off := 71) hC dX8_signOf_1 (by decide) (by rw [hc1]; decide) (by decide) ?_
    refine aw_bipush (pc := 72) (v := 8) hC dX8_signOf_72 bc8 ?_
    exact aw_iretR hC dX8_signOf_74
  refine aw_case (k := 59) (fun hc1 => ?_) (fun hn1_3 => ?_)
  · skip
    refine aw_lswIn (pc := 1) (tgt := 60) (off := 59) hC dX8_signOf_1 (by decide) (by rw [hc1]; decide) (by decide) ?_
    refine aw_iconst (pc := 60) (v := 3) hC dX8_signOf_60 ic3 ?_
    exact aw_iretR hC dX8_signOf_61
  refine aw_case (k := 60) (fun hc1 => ?_) (fun hn1_4 => ?_)
  · skip
    refine aw_lswIn (pc := 1) (tgt := 66) (off := 65) hC dX8_signOf_1 (by decide) (by rw [hc1]; decide) (by decide) ?_
    refine aw_bipush (pc := 66) (v := 6) hC dX8_signOf_66 bc6 ?_
    exact aw_iretR hC dX8_signOf_68
  refine aw_case (k := 62) (fun hc1 => ?_) (fun hn1_5 => ?_)
  · skip
    refine aw_lswIn (pc := 1) (tgt := 69) (off := 68) hC dX8_signOf_1 (by decide) (by rw [hc1]; decide) (by decide) ?_
    refine aw_bipush (pc := 69) (v := 7) hC dX8_signOf_69 bc7 ?_
    exact aw_iretR hC dX8_signOf_71
  refine aw_lswIn (pc := 1) (tgt := 75) (off := 74) hC dX8_signOf_1 (by decide) (by refine (lv_osw hn1_0 (by decide)).trans ?_; refine (lv_osw hn1_1 (by decide)).trans ?_; refine (lv_osw hn1_2 (by decide)).trans ?_; refine (lv_osw hn1_3 (by decide)).trans ?_; refine (lv_osw hn1_4 (by decide)).trans ?_; refine (lv_osw hn1_5 (by decide)).trans ?_; rfl) (by decide) ?_
  refine aw_iconst (pc := 75) (v := 1) hC dX8_signOf_75 ic1 ?_
  exact aw_iretR hC dX8_signOf_76
theorem dX8_add_0 : decode cX8_add 0 = .ok (.aload_n 0, 1) := by decide +kernel
theorem dX8_add_1 : decode cX8_add 1 = .ok (.getfield 21, 3) := by decide +kernel
theorem dX8_add_4 : decode cX8_add 4 = .ok (.aload_n 0, 1) := by decide +kernel
theorem dX8_add_5 : decode cX8_add 5 = .ok (.getfield 9, 3) := by decide +kernel
theorem dX8_add_8 : decode cX8_add 8 = .ok (.arraylength, 1) := by decide +kernel
theorem dX8_add_9 : decode cX8_add 9 = .ok (.if_icmp .lt 4, 3) := by decide +kernel
theorem dX8_add_12 : decode cX8_add 12 = .ok (.return_, 1) := by decide +kernel
theorem dX8_add_13 : decode cX8_add 13 = .ok (.aload_n 1, 1) := by decide +kernel
theorem dX8_add_14 : decode cX8_add 14 = .ok (.iload_n 2, 1) := by decide +kernel
theorem dX8_add_15 : decode cX8_add 15 = .ok (.invokevirtual 43, 3) := by decide +kernel
theorem dX8_add_18 : decode cX8_add 18 = .ok (.istore 4, 2) := by decide +kernel
theorem dX8_add_20 : decode cX8_add 20 = .ok (.aload_n 0, 1) := by decide +kernel
theorem dX8_add_21 : decode cX8_add 21 = .ok (.getfield 15, 3) := by decide +kernel
theorem dX8_add_24 : decode cX8_add 24 = .ok (.aload_n 0, 1) := by decide +kernel
theorem dX8_add_25 : decode cX8_add 25 = .ok (.getfield 21, 3) := by decide +kernel
theorem dX8_add_28 : decode cX8_add 28 = .ok (.iload_n 2, 1) := by decide +kernel
theorem dX8_add_29 : decode cX8_add 29 = .ok (.iastore, 1) := by decide +kernel
theorem dX8_add_30 : decode cX8_add 30 = .ok (.iload 4, 2) := by decide +kernel
theorem dX8_add_32 : decode cX8_add 32 = .ok (.invokestatic 50, 3) := by decide +kernel
theorem dX8_add_35 : decode cX8_add 35 = .ok (.ifCond .eq 21, 3) := by decide +kernel
theorem dX8_add_38 : decode cX8_add 38 = .ok (.aload_n 0, 1) := by decide +kernel
theorem dX8_add_39 : decode cX8_add 39 = .ok (.getfield 9, 3) := by decide +kernel
theorem dX8_add_42 : decode cX8_add 42 = .ok (.aload_n 0, 1) := by decide +kernel
theorem dX8_add_43 : decode cX8_add 43 = .ok (.getfield 21, 3) := by decide +kernel
theorem dX8_add_46 : decode cX8_add 46 = .ok (.aload_n 1, 1) := by decide +kernel
theorem dX8_add_47 : decode cX8_add 47 = .ok (.iload_n 2, 1) := by decide +kernel
theorem dX8_add_48 : decode cX8_add 48 = .ok (.iload_n 3, 1) := by decide +kernel
theorem dX8_add_49 : decode cX8_add 49 = .ok (.invokestatic 57, 3) := by decide +kernel
theorem dX8_add_52 : decode cX8_add 52 = .ok (.iastore, 1) := by decide +kernel
theorem dX8_add_53 : decode cX8_add 53 = .ok (.goto 70, 3) := by decide +kernel
theorem dX8_add_56 : decode cX8_add 56 = .ok (.iload 4, 2) := by decide +kernel
theorem dX8_add_58 : decode cX8_add 58 = .ok (.invokestatic 54, 3) := by decide +kernel
theorem dX8_add_61 : decode cX8_add 61 = .ok (.ifCond .eq 48, 3) := by decide +kernel
theorem dX8_add_64 : decode cX8_add 64 = .ok (.aload_n 0, 1) := by decide +kernel
theorem dX8_add_65 : decode cX8_add 65 = .ok (.getfield 9, 3) := by decide +kernel
theorem dX8_add_68 : decode cX8_add 68 = .ok (.aload_n 0, 1) := by decide +kernel
theorem dX8_add_69 : decode cX8_add 69 = .ok (.getfield 21, 3) := by decide +kernel
theorem dX8_add_72 : decode cX8_add 72 = .ok (.iload_n 3, 1) := by decide +kernel
theorem dX8_add_73 : decode cX8_add 73 = .ok (.iload_n 2, 1) := by decide +kernel
theorem dX8_add_74 : decode cX8_add 74 = .ok (.isub, 1) := by decide +kernel
theorem dX8_add_75 : decode cX8_add 75 = .ok (.iconst 3, 1) := by decide +kernel
theorem dX8_add_76 : decode cX8_add 76 = .ok (.if_icmp .gt 7, 3) := by decide +kernel
theorem dX8_add_79 : decode cX8_add 79 = .ok (.iconst 2, 1) := by decide +kernel
theorem dX8_add_80 : decode cX8_add 80 = .ok (.goto 4, 3) := by decide +kernel
theorem dX8_add_83 : decode cX8_add 83 = .ok (.iconst 1, 1) := by decide +kernel
theorem dX8_add_84 : decode cX8_add 84 = .ok (.iastore, 1) := by decide +kernel
theorem dX8_add_85 : decode cX8_add 85 = .ok (.aload_n 0, 1) := by decide +kernel
theorem dX8_add_86 : decode cX8_add 86 = .ok (.getfield 18, 3) := by decide +kernel
theorem dX8_add_89 : decode cX8_add 89 = .ok (.aload_n 0, 1) := by decide +kernel
theorem dX8_add_90 : decode cX8_add 90 = .ok (.getfield 21, 3) := by decide +kernel
theorem dX8_add_93 : decode cX8_add 93 = .ok (.aload_n 1, 1) := by decide +kernel
theorem dX8_add_94 : decode cX8_add 94 = .ok (.iload_n 2, 1) := by decide +kernel
theorem dX8_add_95 : decode cX8_add 95 = .ok (.iload_n 3, 1) := by decide +kernel
theorem dX8_add_96 : decode cX8_add 96 = .ok (.iload_n 2, 1) := by decide +kernel
theorem dX8_add_97 : decode cX8_add 97 = .ok (.iconst 3, 1) := by decide +kernel
theorem dX8_add_98 : decode cX8_add 98 = .ok (.iadd, 1) := by decide +kernel
theorem dX8_add_99 : decode cX8_add 99 = .ok (.invokestatic 61, 3) := by decide +kernel
theorem dX8_add_102 : decode cX8_add 102 = .ok (.invokestatic 64, 3) := by decide +kernel
theorem dX8_add_105 : decode cX8_add 105 = .ok (.iastore, 1) := by decide +kernel
theorem dX8_add_106 : decode cX8_add 106 = .ok (.goto 17, 3) := by decide +kernel
theorem dX8_add_109 : decode cX8_add 109 = .ok (.aload_n 0, 1) := by decide +kernel
theorem dX8_add_110 : decode cX8_add 110 = .ok (.getfield 9, 3) := by decide +kernel
theorem dX8_add_113 : decode cX8_add 113 = .ok (.aload_n 0, 1) := by decide +kernel
theorem dX8_add_114 : decode cX8_add 114 = .ok (.getfield 21, 3) := by decide +kernel
theorem dX8_add_117 : decode cX8_add 117 = .ok (.iload 4, 2) := by decide +kernel
theorem dX8_add_119 : decode cX8_add 119 = .ok (.invokestatic 67, 3) := by decide +kernel
theorem dX8_add_122 : decode cX8_add 122 = .ok (.iastore, 1) := by decide +kernel
theorem dX8_add_123 : decode cX8_add 123 = .ok (.aload_n 0, 1) := by decide +kernel
theorem dX8_add_124 : decode cX8_add 124 = .ok (.dup, 1) := by decide +kernel
theorem dX8_add_125 : decode cX8_add 125 = .ok (.getfield 21, 3) := by decide +kernel
theorem dX8_add_128 : decode cX8_add 128 = .ok (.iconst 1, 1) := by decide +kernel
theorem dX8_add_129 : decode cX8_add 129 = .ok (.iadd, 1) := by decide +kernel
theorem dX8_add_130 : decode cX8_add 130 = .ok (.putfield 21, 3) := by decide +kernel
theorem dX8_add_133 : decode cX8_add 133 = .ok (.return_, 1) := by decide +kernel
def f_X8_add (μ : Mem) (a2 : Int32) (a3 : Int32) : Option (Mem) := if (μ 0 3 3) < 401 then ((f_X7_at μ a2).bind fun (q1 : Int32) => ix (μ 0 3 3) 401 (nm (upm μ 0 5 (μ 0 3 3).toNatClampNeg a2) fun (μ2 : Mem) => (f_X8_isLetter q1).bind fun (q3 : Int32) => nm (fun (μ4 : Mem) => nm (upm μ4 0 3 3 ((μ4 0 3 3) + 1)) fun (μ5 : Mem) => some μ5) fun (J123 : Mem → Option (Mem)) => if q3 = 0 then ((f_X8_isDigit q1).bind fun (q6 : Int32) => if q6 = 0 then ((f_X8_signOf q1).bind fun (q7 : Int32) => ix (μ2 0 3 3) 401 (nm (upm μ2 0 4 (μ2 0 3 3).toNatClampNeg q7) fun (μ8 : Mem) => J123 μ8)) else (nm (fun (x9 : Int32) => ix (μ2 0 3 3) 401 (nm (upm μ2 0 4 (μ2 0 3 3).toNatClampNeg x9) fun (μ10 : Mem) => (f_X8_numberOf μ10 a2 (jmin a3 (a2 + 3))).bind fun (q11 : Int32) => ix (μ10 0 3 3) 401 (nm (upm μ10 0 6 (μ10 0 3 3).toNatClampNeg q11) fun (μ12 : Mem) => J123 μ12))) fun (J84 : Int32 → Option (Mem)) => if 3 < (a3 - a2) then (J84 1) else (J84 2))) else ((f_X8_wordOf μ2 a2 a3).bind fun (q13 : Int32) => ix (μ2 0 3 3) 401 (nm (upm μ2 0 4 (μ2 0 3 3).toNatClampNeg q13) fun (μ14 : Mem) => J123 μ14)))) else (some μ)
set_option maxHeartbeats 4000000 in
set_option maxRecDepth 100000 in
theorem c_X8_add (G : GG) (l : Launch) (μ : Mem) (a2 : Int32) (a3 : Int32) : CV G l yX8_add (.code yX8_add cX8_add 5 none) 12 [.ref (gad G 0 3), .ref (gad G 0 1), .int a2, .int a3] μ (f_X8_add μ a2 a3) := by
  refine CV.of (own := "SaturdayKeep$Tokens") (L0 := [some (.ref (gad G 0 3)), some (.ref (gad G 0 1)), some (.int a2), some (.int a3), none]) rfl rfl rfl (Nat.le_of_ble_eq_true rfl) (fun C hl hC => ?_)
  subst hl
  delta f_X8_add
  refine aw_aload_n (pc := 0) (i := 0) hC dX8_add_0 rfl rfl ?_
  refine aw_get (pc := 1) hC inX8 (v0 (j := 3) (by decide)) rfl rfl 3 (by decide) kw60 rfl rfl dX8_add_1 ?_
  refine aw_aload_n (pc := 4) (i := 0) hC dX8_add_4 rfl rfl ?_
  refine aw_get (pc := 5) hC inX8 (v0 (j := 3) (by decide)) rfl rfl 0 (by decide) kw57 rfl rfl dX8_add_5 ?_
  refine aw_alen (pc := 8) (v := 401) hC (v0 (j := 4) (by decide)) rfl (by decide) dX8_add_8 ?_
  refine aw_icmp_lt (pc := 9) (tgt := 13) hC dX8_add_9 (by decide) (fun _ => ?_) (fun _ => ?_)
  · skip
    refine aw_aload_n (pc := 13) (i := 1) hC dX8_add_13 rfl rfl ?_
    refine aw_iload_n (pc := 14) (i := 2) hC dX8_add_14 rfl rfl ?_
    refine aw_callVR (pc := 15) (As := [.int a2]) hC mb_X7_at kw593 (by decide) (c_X7_at G C.2.1   μ a2) (v0 (j := 1) (by decide)) rfl rfl rfl (Nat.le_of_ble_eq_true rfl) dX8_add_15 (fun q1 => ?_)
    refine aw_istore (pc := 18) hC dX8_add_18 rfl (by decide) ?_
    refine aw_aload_n (pc := 20) (i := 0) hC dX8_add_20 rfl rfl ?_
    refine aw_get (pc := 21) hC inX8 (v0 (j := 3) (by decide)) rfl rfl 1 (by decide) kw58 rfl rfl dX8_add_21 ?_
    refine aw_aload_n (pc := 24) (i := 0) hC dX8_add_24 rfl rfl ?_
    refine aw_get (pc := 25) hC inX8 (v0 (j := 3) (by decide)) rfl rfl 3 (by decide) kw60 rfl rfl dX8_add_25 ?_
    refine aw_iload_n (pc := 28) (i := 2) hC dX8_add_28 rfl rfl ?_
    refine aw_iastoreN (pc := 29) hC (v0 (j := 5) (by decide)) (fun _ => rfl) dX8_add_29 (fun μ2 => ?_)
    refine aw_iload (pc := 30) hC dX8_add_30 rfl ?_
    refine aw_callSR (pc := 32) (As := [.int q1]) hC ms_X8_isLetter kw597 (by decide) (c_X8_isLetter G C.2.1   μ2 q1) rfl (Nat.le_of_ble_eq_true rfl) dX8_add_32 (fun q3 => ?_)
    refine aw_nmJ (fun (J123 : Mem → Option (Mem)) => ∀ (μ4 : Mem), AW G C (qV G C 0 0) 0 0 5 μ4 123 [some (.ref (gad G 0 3)), none, none, none, none] [] (J123 μ4)) (fun μ4 => ?_) (fun J123 hJ123 => ?_)
    · skip
      refine aw_aload_n (pc := 123) (i := 0) hC dX8_add_123 rfl rfl ?_
      refine aw_dup (pc := 124) hC dX8_add_124 rfl ?_
      refine aw_get (pc := 125) hC inX8 (v0 (j := 3) (by decide)) rfl rfl 3 (by decide) kw60 rfl rfl dX8_add_125 ?_
      refine aw_iconst (pc := 128) (v := 1) hC dX8_add_128 ic1 ?_
      refine aw_iadd (pc := 129) hC dX8_add_129 ?_
      refine aw_putIN (pc := 130) hC inX8 (v0 (j := 3) (by decide)) rfl rfl 3 (by decide) kw60 rfl tyX8 tyX8_ok nmX8 rfl rfl (Nat.le_of_ble_eq_true rfl) rfl dX8_add_130 (fun μ5 => ?_)
      exact aw_vret hC dX8_add_133
    · skip
      refine aw_if_eq (pc := 35) (tgt := 56) hC dX8_add_35 (by decide) (fun _ => ?_) (fun _ => ?_)
      · skip
        refine aw_iload (pc := 56) hC dX8_add_56 rfl ?_
        refine aw_callSR (pc := 58) (As := [.int q1]) hC ms_X8_isDigit kw600 (by decide) (c_X8_isDigit G C.2.1   μ2 q1) rfl (Nat.le_of_ble_eq_true rfl) dX8_add_58 (fun q6 => ?_)
        refine aw_if_eq (pc := 61) (tgt := 109) hC dX8_add_61 (by decide) (fun _ => ?_) (fun _ => ?_)
        · skip
          refine aw_aload_n (pc := 109) (i := 0) hC dX8_add_109 rfl rfl ?_
          refine aw_get (pc := 110) hC inX8 (v0 (j := 3) (by decide)) rfl rfl 0 (by decide) kw57 rfl rfl dX8_add_110 ?_
          refine aw_aload_n (pc := 113) (i := 0) hC dX8_add_113 rfl rfl ?_
          refine aw_get (pc := 114) hC inX8 (v0 (j := 3) (by decide)) rfl rfl 3 (by decide) kw60 rfl rfl dX8_add_114 ?_
          refine aw_iload (pc := 117) hC dX8_add_117 rfl ?_
          refine aw_callSR (pc := 119) (As := [.int q1]) hC ms_X8_signOf kw690 (by decide) (c_X8_signOf G C.2.1   μ2 q1) rfl (Nat.le_of_ble_eq_true rfl) dX8_add_119 (fun q7 => ?_)
          refine aw_iastoreN (pc := 122) hC (v0 (j := 4) (by decide)) (fun _ => rfl) dX8_add_122 (fun μ8 => ?_)
          exact aw_drop [1, 2, 3, 4] (hJ123 μ8)
        · skip
          refine aw_aload_n (pc := 64) (i := 0) hC dX8_add_64 rfl rfl ?_
          refine aw_get (pc := 65) hC inX8 (v0 (j := 3) (by decide)) rfl rfl 0 (by decide) kw57 rfl rfl dX8_add_65 ?_
          refine aw_aload_n (pc := 68) (i := 0) hC dX8_add_68 rfl rfl ?_
          refine aw_get (pc := 69) hC inX8 (v0 (j := 3) (by decide)) rfl rfl 3 (by decide) kw60 rfl rfl dX8_add_69 ?_
          refine aw_iload_n (pc := 72) (i := 3) hC dX8_add_72 rfl rfl ?_
          refine aw_iload_n (pc := 73) (i := 2) hC dX8_add_73 rfl rfl ?_
          refine aw_isub (pc := 74) hC dX8_add_74 ?_
          refine aw_iconst (pc := 75) (v := 3) hC dX8_add_75 ic3 ?_
          refine aw_nmJ (fun (J84 : Int32 → Option (Mem)) => ∀ (x9 : Int32), AW G C (qV G C 0 0) 0 0 5 μ2 84 [some (.ref (gad G 0 3)), some (.ref (gad G 0 1)), some (.int a2), some (.int a3), none] [.int x9, .int (μ2 0 3 3), .ref (gad G 0 4)] (J84 x9)) (fun x9 => ?_) (fun J84 hJ84 => ?_)
          · skip
            refine aw_iastoreN (pc := 84) hC (v0 (j := 4) (by decide)) (fun _ => rfl) dX8_add_84 (fun μ10 => ?_)
            refine aw_aload_n (pc := 85) (i := 0) hC dX8_add_85 rfl rfl ?_
            refine aw_get (pc := 86) hC inX8 (v0 (j := 3) (by decide)) rfl rfl 2 (by decide) kw59 rfl rfl dX8_add_86 ?_
            refine aw_aload_n (pc := 89) (i := 0) hC dX8_add_89 rfl rfl ?_
            refine aw_get (pc := 90) hC inX8 (v0 (j := 3) (by decide)) rfl rfl 3 (by decide) kw60 rfl rfl dX8_add_90 ?_
            refine aw_aload_n (pc := 93) (i := 1) hC dX8_add_93 rfl rfl ?_
            refine aw_iload_n (pc := 94) (i := 2) hC dX8_add_94 rfl rfl ?_
            refine aw_iload_n (pc := 95) (i := 3) hC dX8_add_95 rfl rfl ?_
            refine aw_iload_n (pc := 96) (i := 2) hC dX8_add_96 rfl rfl ?_
            refine aw_iconst (pc := 97) (v := 3) hC dX8_add_97 ic3 ?_
            refine aw_iadd (pc := 98) hC dX8_add_98 ?_
            refine aw_mmin (pc := 99) hC kw686 kw367 kw12 kw368 (by decide) (Nat.le_of_ble_eq_true rfl) dX8_add_99 ?_
            refine aw_callSR (pc := 102) (As := [.ref (gad G 0 1), .int a2, .int (jmin a3 (a2 + 3))]) hC ms_X8_numberOf kw687 (by decide) (c_X8_numberOf G C.2.1   μ10 a2 (jmin a3 (a2 + 3))) rfl (Nat.le_of_ble_eq_true rfl) dX8_add_102 (fun q11 => ?_)
            refine aw_iastoreN (pc := 105) hC (v0 (j := 6) (by decide)) (fun _ => rfl) dX8_add_105 (fun μ12 => ?_)
            refine aw_goto (pc := 106) (tgt := 123) hC dX8_add_106 (by decide) ?_
            exact aw_drop [1, 2, 3] (hJ123 μ12)
          · skip
            refine aw_icmp_gt (pc := 76) (tgt := 83) hC dX8_add_76 (by decide) (fun _ => ?_) (fun _ => ?_)
            · skip
              refine aw_iconst (pc := 83) (v := 1) hC dX8_add_83 ic1 ?_
              exact aw_drop [4] (hJ84 1)
            · skip
              refine aw_iconst (pc := 79) (v := 2) hC dX8_add_79 ic2 ?_
              refine aw_goto (pc := 80) (tgt := 84) hC dX8_add_80 (by decide) ?_
              exact aw_drop [4] (hJ84 2)
      · skip
        refine aw_aload_n (pc := 38) (i := 0) hC dX8_add_38 rfl rfl ?_
        refine aw_get (pc := 39) hC inX8 (v0 (j := 3) (by decide)) rfl rfl 0 (by decide) kw57 rfl rfl dX8_add_39 ?_
        refine aw_aload_n (pc := 42) (i := 0) hC dX8_add_42 rfl rfl ?_
        refine aw_get (pc := 43) hC inX8 (v0 (j := 3) (by decide)) rfl rfl 3 (by decide) kw60 rfl rfl dX8_add_43 ?_
        refine aw_aload_n (pc := 46) (i := 1) hC dX8_add_46 rfl rfl ?_
        refine aw_iload_n (pc := 47) (i := 2) hC dX8_add_47 rfl rfl ?_
        refine aw_iload_n (pc := 48) (i := 3) hC dX8_add_48 rfl rfl ?_
        refine aw_callSR (pc := 49) (As := [.ref (gad G 0 1), .int a2, .int a3]) hC ms_X8_wordOf kw608 (by decide) (c_X8_wordOf G C.2.1   μ2 a2 a3) rfl (Nat.le_of_ble_eq_true rfl) dX8_add_49 (fun q13 => ?_)
        refine aw_iastoreN (pc := 52) hC (v0 (j := 4) (by decide)) (fun _ => rfl) dX8_add_52 (fun μ14 => ?_)
        refine aw_goto (pc := 53) (tgt := 123) hC dX8_add_53 (by decide) ?_
        exact aw_drop [1, 2, 3, 4] (hJ123 μ14)
  · skip
    exact aw_vret hC dX8_add_12
theorem dX8_read_0 : decode cX8_read 0 = .ok (.aload_n 0, 1) := by decide +kernel
theorem dX8_read_1 : decode cX8_read 1 = .ok (.iconst 0, 1) := by decide +kernel
theorem dX8_read_2 : decode cX8_read 2 = .ok (.putfield 21, 3) := by decide +kernel
theorem dX8_read_5 : decode cX8_read 5 = .ok (.aload_n 0, 1) := by decide +kernel
theorem dX8_read_6 : decode cX8_read 6 = .ok (.iconst 0, 1) := by decide +kernel
theorem dX8_read_7 : decode cX8_read 7 = .ok (.putfield 25, 3) := by decide +kernel
theorem dX8_read_10 : decode cX8_read 10 = .ok (.iconst 0, 1) := by decide +kernel
theorem dX8_read_11 : decode cX8_read 11 = .ok (.istore_n 2, 1) := by decide +kernel
theorem dX8_read_12 : decode cX8_read 12 = .ok (.iconst 0, 1) := by decide +kernel
theorem dX8_read_13 : decode cX8_read 13 = .ok (.istore_n 3, 1) := by decide +kernel
theorem dX8_read_14 : decode cX8_read 14 = .ok (.iload_n 3, 1) := by decide +kernel
theorem dX8_read_15 : decode cX8_read 15 = .ok (.aload_n 1, 1) := by decide +kernel
theorem dX8_read_16 : decode cX8_read 16 = .ok (.getfield 28, 3) := by decide +kernel
theorem dX8_read_19 : decode cX8_read 19 = .ok (.if_icmp .ge 37, 3) := by decide +kernel
theorem dX8_read_22 : decode cX8_read 22 = .ok (.iload_n 3, 1) := by decide +kernel
theorem dX8_read_23 : decode cX8_read 23 = .ok (.iconst 1, 1) := by decide +kernel
theorem dX8_read_24 : decode cX8_read 24 = .ok (.iadd, 1) := by decide +kernel
theorem dX8_read_25 : decode cX8_read 25 = .ok (.aload_n 1, 1) := by decide +kernel
theorem dX8_read_26 : decode cX8_read 26 = .ok (.iload_n 3, 1) := by decide +kernel
theorem dX8_read_27 : decode cX8_read 27 = .ok (.invokestatic 33, 3) := by decide +kernel
theorem dX8_read_30 : decode cX8_read 30 = .ok (.invokestatic 37, 3) := by decide +kernel
theorem dX8_read_33 : decode cX8_read 33 = .ok (.istore_n 2, 1) := by decide +kernel
theorem dX8_read_34 : decode cX8_read 34 = .ok (.aload_n 1, 1) := by decide +kernel
theorem dX8_read_35 : decode cX8_read 35 = .ok (.iload_n 3, 1) := by decide +kernel
theorem dX8_read_36 : decode cX8_read 36 = .ok (.invokevirtual 43, 3) := by decide +kernel
theorem dX8_read_39 : decode cX8_read 39 = .ok (.bipush 32, 2) := by decide +kernel
theorem dX8_read_41 : decode cX8_read 41 = .ok (.if_icmp .eq 10, 3) := by decide +kernel
theorem dX8_read_44 : decode cX8_read 44 = .ok (.aload_n 0, 1) := by decide +kernel
theorem dX8_read_45 : decode cX8_read 45 = .ok (.aload_n 1, 1) := by decide +kernel
theorem dX8_read_46 : decode cX8_read 46 = .ok (.iload_n 3, 1) := by decide +kernel
theorem dX8_read_47 : decode cX8_read 47 = .ok (.iload_n 2, 1) := by decide +kernel
theorem dX8_read_48 : decode cX8_read 48 = .ok (.invokevirtual 46, 3) := by decide +kernel
theorem dX8_read_51 : decode cX8_read 51 = .ok (.iload_n 2, 1) := by decide +kernel
theorem dX8_read_52 : decode cX8_read 52 = .ok (.istore_n 3, 1) := by decide +kernel
theorem dX8_read_53 : decode cX8_read 53 = .ok (.goto (-39), 3) := by decide +kernel
theorem dX8_read_56 : decode cX8_read 56 = .ok (.aload_n 0, 1) := by decide +kernel
theorem dX8_read_57 : decode cX8_read 57 = .ok (.getfield 21, 3) := by decide +kernel
theorem dX8_read_60 : decode cX8_read 60 = .ok (.aload_n 0, 1) := by decide +kernel
theorem dX8_read_61 : decode cX8_read 61 = .ok (.getfield 9, 3) := by decide +kernel
theorem dX8_read_64 : decode cX8_read 64 = .ok (.arraylength, 1) := by decide +kernel
theorem dX8_read_65 : decode cX8_read 65 = .ok (.if_icmp .ge 36, 3) := by decide +kernel
theorem dX8_read_68 : decode cX8_read 68 = .ok (.aload_n 0, 1) := by decide +kernel
theorem dX8_read_69 : decode cX8_read 69 = .ok (.getfield 9, 3) := by decide +kernel
theorem dX8_read_72 : decode cX8_read 72 = .ok (.aload_n 0, 1) := by decide +kernel
theorem dX8_read_73 : decode cX8_read 73 = .ok (.getfield 21, 3) := by decide +kernel
theorem dX8_read_76 : decode cX8_read 76 = .ok (.iconst 0, 1) := by decide +kernel
theorem dX8_read_77 : decode cX8_read 77 = .ok (.iastore, 1) := by decide +kernel
theorem dX8_read_78 : decode cX8_read 78 = .ok (.aload_n 0, 1) := by decide +kernel
theorem dX8_read_79 : decode cX8_read 79 = .ok (.getfield 15, 3) := by decide +kernel
theorem dX8_read_82 : decode cX8_read 82 = .ok (.aload_n 0, 1) := by decide +kernel
theorem dX8_read_83 : decode cX8_read 83 = .ok (.getfield 21, 3) := by decide +kernel
theorem dX8_read_86 : decode cX8_read 86 = .ok (.aload_n 1, 1) := by decide +kernel
theorem dX8_read_87 : decode cX8_read 87 = .ok (.getfield 28, 3) := by decide +kernel
theorem dX8_read_90 : decode cX8_read 90 = .ok (.iastore, 1) := by decide +kernel
theorem dX8_read_91 : decode cX8_read 91 = .ok (.aload_n 0, 1) := by decide +kernel
theorem dX8_read_92 : decode cX8_read 92 = .ok (.dup, 1) := by decide +kernel
theorem dX8_read_93 : decode cX8_read 93 = .ok (.getfield 21, 3) := by decide +kernel
theorem dX8_read_96 : decode cX8_read 96 = .ok (.iconst 1, 1) := by decide +kernel
theorem dX8_read_97 : decode cX8_read 97 = .ok (.iadd, 1) := by decide +kernel
theorem dX8_read_98 : decode cX8_read 98 = .ok (.putfield 21, 3) := by decide +kernel
theorem dX8_read_101 : decode cX8_read 101 = .ok (.return_, 1) := by decide +kernel
def lp_X8_read_14 (k56 : Mem → Option (Mem)) : Nat → Int32 → Mem → Option (Mem)
  | 0, _, _ => none
  | n + 1, x4, μ5 => if (μ5 0 1 1) ≤ x4 then (k56 μ5) else ((f_X8_endOf μ5 x4).bind fun (q6 : Int32) => (f_X7_at μ5 x4).bind fun (q7 : Int32) => if q7 = 32 then (lp_X8_read_14 k56 n (jmax (x4 + 1) q6) μ5) else ((f_X8_add μ5 x4 (jmax (x4 + 1) q6)).bind fun (q8 : Mem) => lp_X8_read_14 k56 n (jmax (x4 + 1) q6) q8))
def f_X8_read (μ : Mem) : Option (Mem) := nm (upm μ 0 3 3 0) fun (μ1 : Mem) => nm (upm μ1 0 3 4 0) fun (μ2 : Mem) => lp_X8_read_14 (fun (μ3 : Mem) => if 401 ≤ (μ3 0 3 3) then (some μ3) else (ix (μ3 0 3 3) 401 (nm (upm μ3 0 4 (μ3 0 3 3).toNatClampNeg 0) fun (μ9 : Mem) => ix (μ9 0 3 3) 401 (nm (upm μ9 0 5 (μ9 0 3 3).toNatClampNeg (μ9 0 1 1)) fun (μ10 : Mem) => nm (upm μ10 0 3 3 ((μ10 0 3 3) + 1)) fun (μ11 : Mem) => some μ11)))) 4096 0 μ2
set_option maxHeartbeats 4000000 in
set_option maxRecDepth 100000 in
theorem c_X8_read (G : GG) (l : Launch) (μ : Mem) : CV G l yX8_read (.code yX8_read cX8_read 4 none) 13 [.ref (gad G 0 3), .ref (gad G 0 1)] μ (f_X8_read μ) := by
  refine CV.of (own := "SaturdayKeep$Tokens") (L0 := [some (.ref (gad G 0 3)), some (.ref (gad G 0 1)), none, none]) rfl rfl rfl (Nat.le_of_ble_eq_true rfl) (fun C hl hC => ?_)
  subst hl
  delta f_X8_read
  refine aw_aload_n (pc := 0) (i := 0) hC dX8_read_0 rfl rfl ?_
  refine aw_iconst (pc := 1) (v := 0) hC dX8_read_1 ic0 ?_
  refine aw_putIN (pc := 2) hC inX8 (v0 (j := 3) (by decide)) rfl rfl 3 (by decide) kw60 rfl tyX8 tyX8_ok nmX8 rfl rfl (Nat.le_of_ble_eq_true rfl) rfl dX8_read_2 (fun μ1 => ?_)
  refine aw_aload_n (pc := 5) (i := 0) hC dX8_read_5 rfl rfl ?_
  refine aw_iconst (pc := 6) (v := 0) hC dX8_read_6 ic0 ?_
  refine aw_putIN (pc := 7) hC inX8 (v0 (j := 3) (by decide)) rfl rfl 4 (by decide) kw61 rfl tyX8 tyX8_ok nmX8 rfl rfl (Nat.le_of_ble_eq_true rfl) rfl dX8_read_7 (fun μ2 => ?_)
  refine aw_iconst (pc := 10) (v := 0) hC dX8_read_10 ic0 ?_
  refine aw_istore_n (pc := 11) (i := 2) hC dX8_read_11 rfl rfl (by decide) ?_
  refine aw_iconst (pc := 12) (v := 0) hC dX8_read_12 ic0 ?_
  refine aw_istore_n (pc := 13) (i := 3) hC dX8_read_13 rfl rfl (by decide) ?_
  have hL14 : ∀ (k56 : Mem → Option (Mem)) (hk56 : ∀ (μ3 : Mem), AW G C (qV G C 0 0) 0 0 4 μ3 56 [some (.ref (gad G 0 3)), some (.ref (gad G 0 1)), none, none] [] (k56 μ3)) (n : Nat) (x4 : Int32) (μ5 : Mem), AW G C (qV G C 0 0) 0 0 4 μ5 14 [some (.ref (gad G 0 3)), some (.ref (gad G 0 1)), none, some (.int x4)] [] (lp_X8_read_14 k56 n x4 μ5) := by
    intro k56 hk56 n
    induction n with
    | zero => intro x4 μ5; exact aw_none
    | succ n ih =>
      intro x4 μ5
      rw [lp_X8_read_14]
      refine aw_iload_n (pc := 14) (i := 3) hC dX8_read_14 rfl rfl ?_
      refine aw_aload_n (pc := 15) (i := 1) hC dX8_read_15 rfl rfl ?_
      refine aw_get (pc := 16) hC inX7 (v0 (j := 1) (by decide)) rfl rfl 1 (by decide) kw44 rfl rfl dX8_read_16 ?_
      refine aw_icmp_ge (pc := 19) (tgt := 56) hC dX8_read_19 (by decide) (fun _ => ?_) (fun _ => ?_)
      · skip
        exact aw_drop [3] (hk56 μ5)
      · skip
        refine aw_iload_n (pc := 22) (i := 3) hC dX8_read_22 rfl rfl ?_
        refine aw_iconst (pc := 23) (v := 1) hC dX8_read_23 ic1 ?_
        refine aw_iadd (pc := 24) hC dX8_read_24 ?_
        refine aw_aload_n (pc := 25) (i := 1) hC dX8_read_25 rfl rfl ?_
        refine aw_iload_n (pc := 26) (i := 3) hC dX8_read_26 rfl rfl ?_
        refine aw_callSR (pc := 27) (As := [.ref (gad G 0 1), .int x4]) hC ms_X8_endOf kw590 (by decide) (c_X8_endOf G C.2.1   μ5 x4) rfl (Nat.le_of_ble_eq_true rfl) dX8_read_27 (fun q6 => ?_)
        refine aw_mmax (pc := 30) hC kw603 kw370 kw12 kw371 (by decide) (Nat.le_of_ble_eq_true rfl) dX8_read_30 ?_
        refine aw_istore_n (pc := 33) (i := 2) hC dX8_read_33 rfl rfl (by decide) ?_
        refine aw_aload_n (pc := 34) (i := 1) hC dX8_read_34 rfl rfl ?_
        refine aw_iload_n (pc := 35) (i := 3) hC dX8_read_35 rfl rfl ?_
        refine aw_callVR (pc := 36) (As := [.int x4]) hC mb_X7_at kw593 (by decide) (c_X7_at G C.2.1   μ5 x4) (v0 (j := 1) (by decide)) rfl rfl rfl (Nat.le_of_ble_eq_true rfl) dX8_read_36 (fun q7 => ?_)
        refine aw_bipush (pc := 39) (v := 32) hC dX8_read_39 bc32 ?_
        refine aw_icmp_eq (pc := 41) (tgt := 51) hC dX8_read_41 (by decide) (fun _ => ?_) (fun _ => ?_)
        · skip
          refine aw_iload_n (pc := 51) (i := 2) hC dX8_read_51 rfl rfl ?_
          refine aw_istore_n (pc := 52) (i := 3) hC dX8_read_52 rfl rfl (by decide) ?_
          refine aw_goto (pc := 53) (tgt := 14) hC dX8_read_53 (by decide) ?_
          exact aw_drop [2] (ih (jmax (x4 + 1) q6) μ5)
        · skip
          refine aw_aload_n (pc := 44) (i := 0) hC dX8_read_44 rfl rfl ?_
          refine aw_aload_n (pc := 45) (i := 1) hC dX8_read_45 rfl rfl ?_
          refine aw_iload_n (pc := 46) (i := 3) hC dX8_read_46 rfl rfl ?_
          refine aw_iload_n (pc := 47) (i := 2) hC dX8_read_47 rfl rfl ?_
          refine aw_callVV (pc := 48) (As := [.ref (gad G 0 1), .int x4, .int (jmax (x4 + 1) q6)]) hC mb_X8_add kw604 (by decide) (c_X8_add G C.2.1   μ5 x4 (jmax (x4 + 1) q6)) (v0 (j := 3) (by decide)) rfl rfl rfl (Nat.le_of_ble_eq_true rfl) dX8_read_48 (fun q8 => ?_)
          refine aw_iload_n (pc := 51) (i := 2) hC dX8_read_51 rfl rfl ?_
          refine aw_istore_n (pc := 52) (i := 3) hC dX8_read_52 rfl rfl (by decide) ?_
          refine aw_goto (pc := 53) (tgt := 14) hC dX8_read_53 (by decide) ?_
          exact aw_drop [2] (ih (jmax (x4 + 1) q6) q8)
  refine aw_drop [2] (hL14 (fun (μ3 : Mem) => if 401 ≤ (μ3 0 3 3) then (some μ3) else (ix (μ3 0 3 3) 401 (nm (upm μ3 0 4 (μ3 0 3 3).toNatClampNeg 0) fun (μ9 : Mem) => ix (μ9 0 3 3) 401 (nm (upm μ9 0 5 (μ9 0 3 3).toNatClampNeg (μ9 0 1 1)) fun (μ10 : Mem) => nm (upm μ10 0 3 3 ((μ10 0 3 3) + 1)) fun (μ11 : Mem) => some μ11)))) (fun μ3 => ?_) 4096 0 μ2)
  · skip
    refine aw_aload_n (pc := 56) (i := 0) hC dX8_read_56 rfl rfl ?_
    refine aw_get (pc := 57) hC inX8 (v0 (j := 3) (by decide)) rfl rfl 3 (by decide) kw60 rfl rfl dX8_read_57 ?_
    refine aw_aload_n (pc := 60) (i := 0) hC dX8_read_60 rfl rfl ?_
    refine aw_get (pc := 61) hC inX8 (v0 (j := 3) (by decide)) rfl rfl 0 (by decide) kw57 rfl rfl dX8_read_61 ?_
    refine aw_alen (pc := 64) (v := 401) hC (v0 (j := 4) (by decide)) rfl (by decide) dX8_read_64 ?_
    refine aw_icmp_ge (pc := 65) (tgt := 101) hC dX8_read_65 (by decide) (fun _ => ?_) (fun _ => ?_)
    · skip
      exact aw_vret hC dX8_read_101
    · skip
      refine aw_aload_n (pc := 68) (i := 0) hC dX8_read_68 rfl rfl ?_
      refine aw_get (pc := 69) hC inX8 (v0 (j := 3) (by decide)) rfl rfl 0 (by decide) kw57 rfl rfl dX8_read_69 ?_
      refine aw_aload_n (pc := 72) (i := 0) hC dX8_read_72 rfl rfl ?_
      refine aw_get (pc := 73) hC inX8 (v0 (j := 3) (by decide)) rfl rfl 3 (by decide) kw60 rfl rfl dX8_read_73 ?_
      refine aw_iconst (pc := 76) (v := 0) hC dX8_read_76 ic0 ?_
      refine aw_iastoreN (pc := 77) hC (v0 (j := 4) (by decide)) (fun _ => rfl) dX8_read_77 (fun μ9 => ?_)
      refine aw_aload_n (pc := 78) (i := 0) hC dX8_read_78 rfl rfl ?_
      refine aw_get (pc := 79) hC inX8 (v0 (j := 3) (by decide)) rfl rfl 1 (by decide) kw58 rfl rfl dX8_read_79 ?_
      refine aw_aload_n (pc := 82) (i := 0) hC dX8_read_82 rfl rfl ?_
      refine aw_get (pc := 83) hC inX8 (v0 (j := 3) (by decide)) rfl rfl 3 (by decide) kw60 rfl rfl dX8_read_83 ?_
      refine aw_aload_n (pc := 86) (i := 1) hC dX8_read_86 rfl rfl ?_
      refine aw_get (pc := 87) hC inX7 (v0 (j := 1) (by decide)) rfl rfl 1 (by decide) kw44 rfl rfl dX8_read_87 ?_
      refine aw_iastoreN (pc := 90) hC (v0 (j := 5) (by decide)) (fun _ => rfl) dX8_read_90 (fun μ10 => ?_)
      refine aw_aload_n (pc := 91) (i := 0) hC dX8_read_91 rfl rfl ?_
      refine aw_dup (pc := 92) hC dX8_read_92 rfl ?_
      refine aw_get (pc := 93) hC inX8 (v0 (j := 3) (by decide)) rfl rfl 3 (by decide) kw60 rfl rfl dX8_read_93 ?_
      refine aw_iconst (pc := 96) (v := 1) hC dX8_read_96 ic1 ?_
      refine aw_iadd (pc := 97) hC dX8_read_97 ?_
      refine aw_putIN (pc := 98) hC inX8 (v0 (j := 3) (by decide)) rfl rfl 3 (by decide) kw60 rfl tyX8 tyX8_ok nmX8 rfl rfl (Nat.le_of_ble_eq_true rfl) rfl dX8_read_98 (fun μ11 => ?_)
      exact aw_vret hC dX8_read_101
theorem dX8_kind_0 : decode cX8_kind 0 = .ok (.aload_n 0, 1) := by decide +kernel
theorem dX8_kind_1 : decode cX8_kind 1 = .ok (.getfield 25, 3) := by decide +kernel
theorem dX8_kind_4 : decode cX8_kind 4 = .ok (.ifCond .lt 27, 3) := by decide +kernel
theorem dX8_kind_7 : decode cX8_kind 7 = .ok (.aload_n 0, 1) := by decide +kernel
theorem dX8_kind_8 : decode cX8_kind 8 = .ok (.getfield 25, 3) := by decide +kernel
theorem dX8_kind_11 : decode cX8_kind 11 = .ok (.aload_n 0, 1) := by decide +kernel
theorem dX8_kind_12 : decode cX8_kind 12 = .ok (.getfield 9, 3) := by decide +kernel
theorem dX8_kind_15 : decode cX8_kind 15 = .ok (.arraylength, 1) := by decide +kernel
theorem dX8_kind_16 : decode cX8_kind 16 = .ok (.if_icmp .ge 15, 3) := by decide +kernel
theorem dX8_kind_19 : decode cX8_kind 19 = .ok (.aload_n 0, 1) := by decide +kernel
theorem dX8_kind_20 : decode cX8_kind 20 = .ok (.getfield 9, 3) := by decide +kernel
theorem dX8_kind_23 : decode cX8_kind 23 = .ok (.aload_n 0, 1) := by decide +kernel
theorem dX8_kind_24 : decode cX8_kind 24 = .ok (.getfield 25, 3) := by decide +kernel
theorem dX8_kind_27 : decode cX8_kind 27 = .ok (.iaload, 1) := by decide +kernel
theorem dX8_kind_28 : decode cX8_kind 28 = .ok (.goto 4, 3) := by decide +kernel
theorem dX8_kind_31 : decode cX8_kind 31 = .ok (.iconst 0, 1) := by decide +kernel
theorem dX8_kind_32 : decode cX8_kind 32 = .ok (.ireturn, 1) := by decide +kernel
def f_X8_kind (μ : Mem) : Option (Int32) := if (μ 0 3 4) < 0 then (some 0) else (if 401 ≤ (μ 0 3 4) then (some 0) else (ix (μ 0 3 4) 401 (some (μ 0 4 (μ 0 3 4).toNatClampNeg))))
set_option maxHeartbeats 4000000 in
set_option maxRecDepth 100000 in
theorem c_X8_kind (G : GG) (l : Launch) (μ : Mem) : CR G l yX8_kind (.code yX8_kind cX8_kind 1 (some .int)) 1 [.ref (gad G 0 3)] μ (f_X8_kind μ) := by
  refine CR.of (own := "SaturdayKeep$Tokens") (L0 := [some (.ref (gad G 0 3))]) rfl rfl rfl (Nat.le_of_ble_eq_true rfl) (fun C hl hC => ?_)
  subst hl
  delta f_X8_kind
  refine aw_aload_n (pc := 0) (i := 0) hC dX8_kind_0 rfl rfl ?_
  refine aw_get (pc := 1) hC inX8 (v0 (j := 3) (by decide)) rfl rfl 4 (by decide) kw61 rfl rfl dX8_kind_1 ?_
  refine aw_if_lt (pc := 4) (tgt := 31) hC dX8_kind_4 (by decide) (fun _ => ?_) (fun _ => ?_)
  · skip
    refine aw_iconst (pc := 31) (v := 0) hC dX8_kind_31 ic0 ?_
    exact aw_iretR hC dX8_kind_32
  · skip
    refine aw_aload_n (pc := 7) (i := 0) hC dX8_kind_7 rfl rfl ?_
    refine aw_get (pc := 8) hC inX8 (v0 (j := 3) (by decide)) rfl rfl 4 (by decide) kw61 rfl rfl dX8_kind_8 ?_
    refine aw_aload_n (pc := 11) (i := 0) hC dX8_kind_11 rfl rfl ?_
    refine aw_get (pc := 12) hC inX8 (v0 (j := 3) (by decide)) rfl rfl 0 (by decide) kw57 rfl rfl dX8_kind_12 ?_
    refine aw_alen (pc := 15) (v := 401) hC (v0 (j := 4) (by decide)) rfl (by decide) dX8_kind_15 ?_
    refine aw_icmp_ge (pc := 16) (tgt := 31) hC dX8_kind_16 (by decide) (fun _ => ?_) (fun _ => ?_)
    · skip
      refine aw_iconst (pc := 31) (v := 0) hC dX8_kind_31 ic0 ?_
      exact aw_iretR hC dX8_kind_32
    · skip
      refine aw_aload_n (pc := 19) (i := 0) hC dX8_kind_19 rfl rfl ?_
      refine aw_get (pc := 20) hC inX8 (v0 (j := 3) (by decide)) rfl rfl 0 (by decide) kw57 rfl rfl dX8_kind_20 ?_
      refine aw_aload_n (pc := 23) (i := 0) hC dX8_kind_23 rfl rfl ?_
      refine aw_get (pc := 24) hC inX8 (v0 (j := 3) (by decide)) rfl rfl 4 (by decide) kw61 rfl rfl dX8_kind_24 ?_
      refine aw_iaload (pc := 27) hC (v0 (j := 4) (by decide)) rfl dX8_kind_27 ?_
      refine aw_goto (pc := 28) (tgt := 32) hC dX8_kind_28 (by decide) ?_
      exact aw_iretR hC dX8_kind_32
theorem dX8_take_0 : decode cX8_take 0 = .ok (.iload_n 1, 1) := by decide +kernel
theorem dX8_take_1 : decode cX8_take 1 = .ok (.ifCond .eq 35, 3) := by decide +kernel
theorem dX8_take_4 : decode cX8_take 4 = .ok (.aload_n 0, 1) := by decide +kernel
theorem dX8_take_5 : decode cX8_take 5 = .ok (.getfield 25, 3) := by decide +kernel
theorem dX8_take_8 : decode cX8_take 8 = .ok (.ifCond .lt 28, 3) := by decide +kernel
theorem dX8_take_11 : decode cX8_take 11 = .ok (.aload_n 0, 1) := by decide +kernel
theorem dX8_take_12 : decode cX8_take 12 = .ok (.getfield 25, 3) := by decide +kernel
theorem dX8_take_15 : decode cX8_take 15 = .ok (.aload_n 0, 1) := by decide +kernel
theorem dX8_take_16 : decode cX8_take 16 = .ok (.getfield 9, 3) := by decide +kernel
theorem dX8_take_19 : decode cX8_take 19 = .ok (.arraylength, 1) := by decide +kernel
theorem dX8_take_20 : decode cX8_take 20 = .ok (.if_icmp .ge 16, 3) := by decide +kernel
theorem dX8_take_23 : decode cX8_take 23 = .ok (.aload_n 0, 1) := by decide +kernel
theorem dX8_take_24 : decode cX8_take 24 = .ok (.getfield 9, 3) := by decide +kernel
theorem dX8_take_27 : decode cX8_take 27 = .ok (.aload_n 0, 1) := by decide +kernel
theorem dX8_take_28 : decode cX8_take 28 = .ok (.getfield 25, 3) := by decide +kernel
theorem dX8_take_31 : decode cX8_take 31 = .ok (.iaload, 1) := by decide +kernel
theorem dX8_take_32 : decode cX8_take 32 = .ok (.iload_n 1, 1) := by decide +kernel
theorem dX8_take_33 : decode cX8_take 33 = .ok (.if_icmp .eq 5, 3) := by decide +kernel
theorem dX8_take_36 : decode cX8_take 36 = .ok (.iconst 0, 1) := by decide +kernel
theorem dX8_take_37 : decode cX8_take 37 = .ok (.ireturn, 1) := by decide +kernel
theorem dX8_take_38 : decode cX8_take 38 = .ok (.aload_n 0, 1) := by decide +kernel
theorem dX8_take_39 : decode cX8_take 39 = .ok (.dup, 1) := by decide +kernel
theorem dX8_take_40 : decode cX8_take 40 = .ok (.getfield 25, 3) := by decide +kernel
theorem dX8_take_43 : decode cX8_take 43 = .ok (.iconst 1, 1) := by decide +kernel
theorem dX8_take_44 : decode cX8_take 44 = .ok (.iadd, 1) := by decide +kernel
theorem dX8_take_45 : decode cX8_take 45 = .ok (.putfield 25, 3) := by decide +kernel
theorem dX8_take_48 : decode cX8_take 48 = .ok (.iconst 1, 1) := by decide +kernel
theorem dX8_take_49 : decode cX8_take 49 = .ok (.ireturn, 1) := by decide +kernel
def f_X8_take (μ : Mem) (a1 : Int32) : Option (Int32 × Mem) := if a1 = 0 then (some (0, μ)) else (if (μ 0 3 4) < 0 then (some (0, μ)) else (if 401 ≤ (μ 0 3 4) then (some (0, μ)) else (ix (μ 0 3 4) 401 (if (μ 0 4 (μ 0 3 4).toNatClampNeg) = a1 then (nm (upm μ 0 3 4 ((μ 0 3 4) + 1)) fun (μ1 : Mem) => some (1, μ1)) else (some (0, μ))))))
set_option maxHeartbeats 4000000 in
set_option maxRecDepth 100000 in
theorem c_X8_take (G : GG) (l : Launch) (μ : Mem) (a1 : Int32) : CI G l yX8_take (.code yX8_take cX8_take 2 (some .boolean)) 1 [.ref (gad G 0 3), .int a1] μ (f_X8_take μ a1) := by
  refine CI.of (own := "SaturdayKeep$Tokens") (L0 := [some (.ref (gad G 0 3)), some (.int a1)]) rfl rfl rfl (Nat.le_of_ble_eq_true rfl) (fun C hl hC => ?_)
  subst hl
  delta f_X8_take
  refine aw_iload_n (pc := 0) (i := 1) hC dX8_take_0 rfl rfl ?_
  refine aw_if_eq (pc := 1) (tgt := 36) hC dX8_take_1 (by decide) (fun _ => ?_) (fun _ => ?_)
  · skip
    refine aw_iconst (pc := 36) (v := 0) hC dX8_take_36 ic0 ?_
    exact aw_zret0 hC dX8_take_37
  · skip
    refine aw_aload_n (pc := 4) (i := 0) hC dX8_take_4 rfl rfl ?_
    refine aw_get (pc := 5) hC inX8 (v0 (j := 3) (by decide)) rfl rfl 4 (by decide) kw61 rfl rfl dX8_take_5 ?_
    refine aw_if_lt (pc := 8) (tgt := 36) hC dX8_take_8 (by decide) (fun _ => ?_) (fun _ => ?_)
    · skip
      refine aw_iconst (pc := 36) (v := 0) hC dX8_take_36 ic0 ?_
      exact aw_zret0 hC dX8_take_37
    · skip
      refine aw_aload_n (pc := 11) (i := 0) hC dX8_take_11 rfl rfl ?_
      refine aw_get (pc := 12) hC inX8 (v0 (j := 3) (by decide)) rfl rfl 4 (by decide) kw61 rfl rfl dX8_take_12 ?_
      refine aw_aload_n (pc := 15) (i := 0) hC dX8_take_15 rfl rfl ?_
      refine aw_get (pc := 16) hC inX8 (v0 (j := 3) (by decide)) rfl rfl 0 (by decide) kw57 rfl rfl dX8_take_16 ?_
      refine aw_alen (pc := 19) (v := 401) hC (v0 (j := 4) (by decide)) rfl (by decide) dX8_take_19 ?_
      refine aw_icmp_ge (pc := 20) (tgt := 36) hC dX8_take_20 (by decide) (fun _ => ?_) (fun _ => ?_)
      · skip
        refine aw_iconst (pc := 36) (v := 0) hC dX8_take_36 ic0 ?_
        exact aw_zret0 hC dX8_take_37
      · skip
        refine aw_aload_n (pc := 23) (i := 0) hC dX8_take_23 rfl rfl ?_
        refine aw_get (pc := 24) hC inX8 (v0 (j := 3) (by decide)) rfl rfl 0 (by decide) kw57 rfl rfl dX8_take_24 ?_
        refine aw_aload_n (pc := 27) (i := 0) hC dX8_take_27 rfl rfl ?_
        refine aw_get (pc := 28) hC inX8 (v0 (j := 3) (by decide)) rfl rfl 4 (by decide) kw61 rfl rfl dX8_take_28 ?_
        refine aw_iaload (pc := 31) hC (v0 (j := 4) (by decide)) rfl dX8_take_31 ?_
        refine aw_iload_n (pc := 32) (i := 1) hC dX8_take_32 rfl rfl ?_
        refine aw_icmp_eq (pc := 33) (tgt := 38) hC dX8_take_33 (by decide) (fun _ => ?_) (fun _ => ?_)
        · skip
          refine aw_aload_n (pc := 38) (i := 0) hC dX8_take_38 rfl rfl ?_
          refine aw_dup (pc := 39) hC dX8_take_39 rfl ?_
          refine aw_get (pc := 40) hC inX8 (v0 (j := 3) (by decide)) rfl rfl 4 (by decide) kw61 rfl rfl dX8_take_40 ?_
          refine aw_iconst (pc := 43) (v := 1) hC dX8_take_43 ic1 ?_
          refine aw_iadd (pc := 44) hC dX8_take_44 ?_
          refine aw_putIN (pc := 45) hC inX8 (v0 (j := 3) (by decide)) rfl rfl 4 (by decide) kw61 rfl tyX8 tyX8_ok nmX8 rfl rfl (Nat.le_of_ble_eq_true rfl) rfl dX8_take_45 (fun μ1 => ?_)
          refine aw_iconst (pc := 48) (v := 1) hC dX8_take_48 ic1 ?_
          exact aw_zret1 hC dX8_take_49
        · skip
          refine aw_iconst (pc := 36) (v := 0) hC dX8_take_36 ic0 ?_
          exact aw_zret0 hC dX8_take_37
theorem dX8_takeNumber_0 : decode cX8_takeNumber 0 = .ok (.aload_n 0, 1) := by decide +kernel
theorem dX8_takeNumber_1 : decode cX8_takeNumber 1 = .ok (.getfield 25, 3) := by decide +kernel
theorem dX8_takeNumber_4 : decode cX8_takeNumber 4 = .ok (.ifCond .lt 53, 3) := by decide +kernel
theorem dX8_takeNumber_7 : decode cX8_takeNumber 7 = .ok (.aload_n 0, 1) := by decide +kernel
theorem dX8_takeNumber_8 : decode cX8_takeNumber 8 = .ok (.getfield 25, 3) := by decide +kernel
theorem dX8_takeNumber_11 : decode cX8_takeNumber 11 = .ok (.aload_n 0, 1) := by decide +kernel
theorem dX8_takeNumber_12 : decode cX8_takeNumber 12 = .ok (.getfield 9, 3) := by decide +kernel
theorem dX8_takeNumber_15 : decode cX8_takeNumber 15 = .ok (.arraylength, 1) := by decide +kernel
theorem dX8_takeNumber_16 : decode cX8_takeNumber 16 = .ok (.if_icmp .ge 41, 3) := by decide +kernel
theorem dX8_takeNumber_19 : decode cX8_takeNumber 19 = .ok (.aload_n 0, 1) := by decide +kernel
theorem dX8_takeNumber_20 : decode cX8_takeNumber 20 = .ok (.getfield 25, 3) := by decide +kernel
theorem dX8_takeNumber_23 : decode cX8_takeNumber 23 = .ok (.aload_n 0, 1) := by decide +kernel
theorem dX8_takeNumber_24 : decode cX8_takeNumber 24 = .ok (.getfield 18, 3) := by decide +kernel
theorem dX8_takeNumber_27 : decode cX8_takeNumber 27 = .ok (.arraylength, 1) := by decide +kernel
theorem dX8_takeNumber_28 : decode cX8_takeNumber 28 = .ok (.if_icmp .ge 29, 3) := by decide +kernel
theorem dX8_takeNumber_31 : decode cX8_takeNumber 31 = .ok (.aload_n 0, 1) := by decide +kernel
theorem dX8_takeNumber_32 : decode cX8_takeNumber 32 = .ok (.getfield 9, 3) := by decide +kernel
theorem dX8_takeNumber_35 : decode cX8_takeNumber 35 = .ok (.aload_n 0, 1) := by decide +kernel
theorem dX8_takeNumber_36 : decode cX8_takeNumber 36 = .ok (.getfield 25, 3) := by decide +kernel
theorem dX8_takeNumber_39 : decode cX8_takeNumber 39 = .ok (.iaload, 1) := by decide +kernel
theorem dX8_takeNumber_40 : decode cX8_takeNumber 40 = .ok (.iconst 2, 1) := by decide +kernel
theorem dX8_takeNumber_41 : decode cX8_takeNumber 41 = .ok (.if_icmp .ne 16, 3) := by decide +kernel
theorem dX8_takeNumber_44 : decode cX8_takeNumber 44 = .ok (.aload_n 0, 1) := by decide +kernel
theorem dX8_takeNumber_45 : decode cX8_takeNumber 45 = .ok (.getfield 18, 3) := by decide +kernel
theorem dX8_takeNumber_48 : decode cX8_takeNumber 48 = .ok (.aload_n 0, 1) := by decide +kernel
theorem dX8_takeNumber_49 : decode cX8_takeNumber 49 = .ok (.getfield 25, 3) := by decide +kernel
theorem dX8_takeNumber_52 : decode cX8_takeNumber 52 = .ok (.iaload, 1) := by decide +kernel
theorem dX8_takeNumber_53 : decode cX8_takeNumber 53 = .ok (.iload_n 1, 1) := by decide +kernel
theorem dX8_takeNumber_54 : decode cX8_takeNumber 54 = .ok (.if_icmp .le 5, 3) := by decide +kernel
theorem dX8_takeNumber_57 : decode cX8_takeNumber 57 = .ok (.iconst 0, 1) := by decide +kernel
theorem dX8_takeNumber_58 : decode cX8_takeNumber 58 = .ok (.ireturn, 1) := by decide +kernel
theorem dX8_takeNumber_59 : decode cX8_takeNumber 59 = .ok (.aload_n 0, 1) := by decide +kernel
theorem dX8_takeNumber_60 : decode cX8_takeNumber 60 = .ok (.aload_n 0, 1) := by decide +kernel
theorem dX8_takeNumber_61 : decode cX8_takeNumber 61 = .ok (.getfield 18, 3) := by decide +kernel
theorem dX8_takeNumber_64 : decode cX8_takeNumber 64 = .ok (.aload_n 0, 1) := by decide +kernel
theorem dX8_takeNumber_65 : decode cX8_takeNumber 65 = .ok (.getfield 25, 3) := by decide +kernel
theorem dX8_takeNumber_68 : decode cX8_takeNumber 68 = .ok (.iaload, 1) := by decide +kernel
theorem dX8_takeNumber_69 : decode cX8_takeNumber 69 = .ok (.putfield 130, 3) := by decide +kernel
theorem dX8_takeNumber_72 : decode cX8_takeNumber 72 = .ok (.aload_n 0, 1) := by decide +kernel
theorem dX8_takeNumber_73 : decode cX8_takeNumber 73 = .ok (.dup, 1) := by decide +kernel
theorem dX8_takeNumber_74 : decode cX8_takeNumber 74 = .ok (.getfield 25, 3) := by decide +kernel
theorem dX8_takeNumber_77 : decode cX8_takeNumber 77 = .ok (.iconst 1, 1) := by decide +kernel
theorem dX8_takeNumber_78 : decode cX8_takeNumber 78 = .ok (.iadd, 1) := by decide +kernel
theorem dX8_takeNumber_79 : decode cX8_takeNumber 79 = .ok (.putfield 25, 3) := by decide +kernel
theorem dX8_takeNumber_82 : decode cX8_takeNumber 82 = .ok (.iconst 1, 1) := by decide +kernel
theorem dX8_takeNumber_83 : decode cX8_takeNumber 83 = .ok (.ireturn, 1) := by decide +kernel
def f_X8_takeNumber (μ : Mem) (a1 : Int32) : Option (Int32 × Mem) := if (μ 0 3 4) < 0 then (some (0, μ)) else (if 401 ≤ (μ 0 3 4) then (some (0, μ)) else (if 401 ≤ (μ 0 3 4) then (some (0, μ)) else (ix (μ 0 3 4) 401 (if (μ 0 4 (μ 0 3 4).toNatClampNeg) = 2 then (ix (μ 0 3 4) 401 (if (μ 0 6 (μ 0 3 4).toNatClampNeg) ≤ a1 then (ix (μ 0 3 4) 401 (nm (upm μ 0 3 5 (μ 0 6 (μ 0 3 4).toNatClampNeg)) fun (μ1 : Mem) => nm (upm μ1 0 3 4 ((μ1 0 3 4) + 1)) fun (μ2 : Mem) => some (1, μ2))) else (some (0, μ)))) else (some (0, μ))))))
set_option maxHeartbeats 4000000 in
set_option maxRecDepth 100000 in
theorem c_X8_takeNumber (G : GG) (l : Launch) (μ : Mem) (a1 : Int32) : CI G l yX8_takeNumber (.code yX8_takeNumber cX8_takeNumber 2 (some .boolean)) 1 [.ref (gad G 0 3), .int a1] μ (f_X8_takeNumber μ a1) := by
  refine CI.of (own := "SaturdayKeep$Tokens") (L0 := [some (.ref (gad G 0 3)), some (.int a1)]) rfl rfl rfl (Nat.le_of_ble_eq_true rfl) (fun C hl hC => ?_)
  subst hl
  delta f_X8_takeNumber
  refine aw_aload_n (pc := 0) (i := 0) hC dX8_takeNumber_0 rfl rfl ?_
  refine aw_get (pc := 1) hC inX8 (v0 (j := 3) (by decide)) rfl rfl 4 (by decide) kw61 rfl rfl dX8_takeNumber_1 ?_
  refine aw_if_lt (pc := 4) (tgt := 57) hC dX8_takeNumber_4 (by decide) (fun _ => ?_) (fun _ => ?_)
  · skip
    refine aw_iconst (pc := 57) (v := 0) hC dX8_takeNumber_57 ic0 ?_
    exact aw_zret0 hC dX8_takeNumber_58
  · skip
    refine aw_aload_n (pc := 7) (i := 0) hC dX8_takeNumber_7 rfl rfl ?_
    refine aw_get (pc := 8) hC inX8 (v0 (j := 3) (by decide)) rfl rfl 4 (by decide) kw61 rfl rfl dX8_takeNumber_8 ?_
    refine aw_aload_n (pc := 11) (i := 0) hC dX8_takeNumber_11 rfl rfl ?_
    refine aw_get (pc := 12) hC inX8 (v0 (j := 3) (by decide)) rfl rfl 0 (by decide) kw57 rfl rfl dX8_takeNumber_12 ?_
    refine aw_alen (pc := 15) (v := 401) hC (v0 (j := 4) (by decide)) rfl (by decide) dX8_takeNumber_15 ?_
    refine aw_icmp_ge (pc := 16) (tgt := 57) hC dX8_takeNumber_16 (by decide) (fun _ => ?_) (fun _ => ?_)
    · skip
      refine aw_iconst (pc := 57) (v := 0) hC dX8_takeNumber_57 ic0 ?_
      exact aw_zret0 hC dX8_takeNumber_58
    · skip
      refine aw_aload_n (pc := 19) (i := 0) hC dX8_takeNumber_19 rfl rfl ?_
      refine aw_get (pc := 20) hC inX8 (v0 (j := 3) (by decide)) rfl rfl 4 (by decide) kw61 rfl rfl dX8_takeNumber_20 ?_
      refine aw_aload_n (pc := 23) (i := 0) hC dX8_takeNumber_23 rfl rfl ?_
      refine aw_get (pc := 24) hC inX8 (v0 (j := 3) (by decide)) rfl rfl 2 (by decide) kw59 rfl rfl dX8_takeNumber_24 ?_
      refine aw_alen (pc := 27) (v := 401) hC (v0 (j := 6) (by decide)) rfl (by decide) dX8_takeNumber_27 ?_
      refine aw_icmp_ge (pc := 28) (tgt := 57) hC dX8_takeNumber_28 (by decide) (fun _ => ?_) (fun _ => ?_)
      · skip
        refine aw_iconst (pc := 57) (v := 0) hC dX8_takeNumber_57 ic0 ?_
        exact aw_zret0 hC dX8_takeNumber_58
      · skip
        refine aw_aload_n (pc := 31) (i := 0) hC dX8_takeNumber_31 rfl rfl ?_
        refine aw_get (pc := 32) hC inX8 (v0 (j := 3) (by decide)) rfl rfl 0 (by decide) kw57 rfl rfl dX8_takeNumber_32 ?_
        refine aw_aload_n (pc := 35) (i := 0) hC dX8_takeNumber_35 rfl rfl ?_
        refine aw_get (pc := 36) hC inX8 (v0 (j := 3) (by decide)) rfl rfl 4 (by decide) kw61 rfl rfl dX8_takeNumber_36 ?_
        refine aw_iaload (pc := 39) hC (v0 (j := 4) (by decide)) rfl dX8_takeNumber_39 ?_
        refine aw_iconst (pc := 40) (v := 2) hC dX8_takeNumber_40 ic2 ?_
        refine aw_icmp_ne (pc := 41) (tgt := 57) hC dX8_takeNumber_41 (by decide) (fun _ => ?_) (fun _ => ?_)
        · skip
          refine aw_aload_n (pc := 44) (i := 0) hC dX8_takeNumber_44 rfl rfl ?_
          refine aw_get (pc := 45) hC inX8 (v0 (j := 3) (by decide)) rfl rfl 2 (by decide) kw59 rfl rfl dX8_takeNumber_45 ?_
          refine aw_aload_n (pc := 48) (i := 0) hC dX8_takeNumber_48 rfl rfl ?_
          refine aw_get (pc := 49) hC inX8 (v0 (j := 3) (by decide)) rfl rfl 4 (by decide) kw61 rfl rfl dX8_takeNumber_49 ?_
          refine aw_iaload (pc := 52) hC (v0 (j := 6) (by decide)) rfl dX8_takeNumber_52 ?_
          refine aw_iload_n (pc := 53) (i := 1) hC dX8_takeNumber_53 rfl rfl ?_
          refine aw_icmp_le (pc := 54) (tgt := 59) hC dX8_takeNumber_54 (by decide) (fun _ => ?_) (fun _ => ?_)
          · skip
            refine aw_aload_n (pc := 59) (i := 0) hC dX8_takeNumber_59 rfl rfl ?_
            refine aw_aload_n (pc := 60) (i := 0) hC dX8_takeNumber_60 rfl rfl ?_
            refine aw_get (pc := 61) hC inX8 (v0 (j := 3) (by decide)) rfl rfl 2 (by decide) kw59 rfl rfl dX8_takeNumber_61 ?_
            refine aw_aload_n (pc := 64) (i := 0) hC dX8_takeNumber_64 rfl rfl ?_
            refine aw_get (pc := 65) hC inX8 (v0 (j := 3) (by decide)) rfl rfl 4 (by decide) kw61 rfl rfl dX8_takeNumber_65 ?_
            refine aw_iaload (pc := 68) hC (v0 (j := 6) (by decide)) rfl dX8_takeNumber_68 ?_
            refine aw_putIN (pc := 69) hC inX8 (v0 (j := 3) (by decide)) rfl rfl 5 (by decide) kw65 rfl tyX8 tyX8_ok nmX8 rfl rfl (Nat.le_of_ble_eq_true rfl) rfl dX8_takeNumber_69 (fun μ1 => ?_)
            refine aw_aload_n (pc := 72) (i := 0) hC dX8_takeNumber_72 rfl rfl ?_
            refine aw_dup (pc := 73) hC dX8_takeNumber_73 rfl ?_
            refine aw_get (pc := 74) hC inX8 (v0 (j := 3) (by decide)) rfl rfl 4 (by decide) kw61 rfl rfl dX8_takeNumber_74 ?_
            refine aw_iconst (pc := 77) (v := 1) hC dX8_takeNumber_77 ic1 ?_
            refine aw_iadd (pc := 78) hC dX8_takeNumber_78 ?_
            refine aw_putIN (pc := 79) hC inX8 (v0 (j := 3) (by decide)) rfl rfl 4 (by decide) kw61 rfl tyX8 tyX8_ok nmX8 rfl rfl (Nat.le_of_ble_eq_true rfl) rfl dX8_takeNumber_79 (fun μ2 => ?_)
            refine aw_iconst (pc := 82) (v := 1) hC dX8_takeNumber_82 ic1 ?_
            exact aw_zret1 hC dX8_takeNumber_83
          · skip
            refine aw_iconst (pc := 57) (v := 0) hC dX8_takeNumber_57 ic0 ?_
            exact aw_zret0 hC dX8_takeNumber_58
        · skip
          refine aw_iconst (pc := 57) (v := 0) hC dX8_takeNumber_57 ic0 ?_
          exact aw_zret0 hC dX8_takeNumber_58
theorem dX8_begin_0 : decode cX8_begin 0 = .ok (.aload_n 0, 1) := by decide +kernel
theorem dX8_begin_1 : decode cX8_begin 1 = .ok (.getfield 25, 3) := by decide +kernel
theorem dX8_begin_4 : decode cX8_begin 4 = .ok (.ifCond .lt 27, 3) := by decide +kernel
theorem dX8_begin_7 : decode cX8_begin 7 = .ok (.aload_n 0, 1) := by decide +kernel
theorem dX8_begin_8 : decode cX8_begin 8 = .ok (.getfield 25, 3) := by decide +kernel
theorem dX8_begin_11 : decode cX8_begin 11 = .ok (.aload_n 0, 1) := by decide +kernel
theorem dX8_begin_12 : decode cX8_begin 12 = .ok (.getfield 15, 3) := by decide +kernel
theorem dX8_begin_15 : decode cX8_begin 15 = .ok (.arraylength, 1) := by decide +kernel
theorem dX8_begin_16 : decode cX8_begin 16 = .ok (.if_icmp .ge 15, 3) := by decide +kernel
theorem dX8_begin_19 : decode cX8_begin 19 = .ok (.aload_n 0, 1) := by decide +kernel
theorem dX8_begin_20 : decode cX8_begin 20 = .ok (.getfield 15, 3) := by decide +kernel
theorem dX8_begin_23 : decode cX8_begin 23 = .ok (.aload_n 0, 1) := by decide +kernel
theorem dX8_begin_24 : decode cX8_begin 24 = .ok (.getfield 25, 3) := by decide +kernel
theorem dX8_begin_27 : decode cX8_begin 27 = .ok (.iaload, 1) := by decide +kernel
theorem dX8_begin_28 : decode cX8_begin 28 = .ok (.goto 4, 3) := by decide +kernel
theorem dX8_begin_31 : decode cX8_begin 31 = .ok (.iconst 0, 1) := by decide +kernel
theorem dX8_begin_32 : decode cX8_begin 32 = .ok (.ireturn, 1) := by decide +kernel
def f_X8_begin (μ : Mem) : Option (Int32) := if (μ 0 3 4) < 0 then (some 0) else (if 401 ≤ (μ 0 3 4) then (some 0) else (ix (μ 0 3 4) 401 (some (μ 0 5 (μ 0 3 4).toNatClampNeg))))
set_option maxHeartbeats 4000000 in
set_option maxRecDepth 100000 in
theorem c_X8_begin (G : GG) (l : Launch) (μ : Mem) : CR G l yX8_begin (.code yX8_begin cX8_begin 1 (some .int)) 1 [.ref (gad G 0 3)] μ (f_X8_begin μ) := by
  refine CR.of (own := "SaturdayKeep$Tokens") (L0 := [some (.ref (gad G 0 3))]) rfl rfl rfl (Nat.le_of_ble_eq_true rfl) (fun C hl hC => ?_)
  subst hl
  delta f_X8_begin
  refine aw_aload_n (pc := 0) (i := 0) hC dX8_begin_0 rfl rfl ?_
  refine aw_get (pc := 1) hC inX8 (v0 (j := 3) (by decide)) rfl rfl 4 (by decide) kw61 rfl rfl dX8_begin_1 ?_
  refine aw_if_lt (pc := 4) (tgt := 31) hC dX8_begin_4 (by decide) (fun _ => ?_) (fun _ => ?_)
  · skip
    refine aw_iconst (pc := 31) (v := 0) hC dX8_begin_31 ic0 ?_
    exact aw_iretR hC dX8_begin_32
  · skip
    refine aw_aload_n (pc := 7) (i := 0) hC dX8_begin_7 rfl rfl ?_
    refine aw_get (pc := 8) hC inX8 (v0 (j := 3) (by decide)) rfl rfl 4 (by decide) kw61 rfl rfl dX8_begin_8 ?_
    refine aw_aload_n (pc := 11) (i := 0) hC dX8_begin_11 rfl rfl ?_
    refine aw_get (pc := 12) hC inX8 (v0 (j := 3) (by decide)) rfl rfl 1 (by decide) kw58 rfl rfl dX8_begin_12 ?_
    refine aw_alen (pc := 15) (v := 401) hC (v0 (j := 5) (by decide)) rfl (by decide) dX8_begin_15 ?_
    refine aw_icmp_ge (pc := 16) (tgt := 31) hC dX8_begin_16 (by decide) (fun _ => ?_) (fun _ => ?_)
    · skip
      refine aw_iconst (pc := 31) (v := 0) hC dX8_begin_31 ic0 ?_
      exact aw_iretR hC dX8_begin_32
    · skip
      refine aw_aload_n (pc := 19) (i := 0) hC dX8_begin_19 rfl rfl ?_
      refine aw_get (pc := 20) hC inX8 (v0 (j := 3) (by decide)) rfl rfl 1 (by decide) kw58 rfl rfl dX8_begin_20 ?_
      refine aw_aload_n (pc := 23) (i := 0) hC dX8_begin_23 rfl rfl ?_
      refine aw_get (pc := 24) hC inX8 (v0 (j := 3) (by decide)) rfl rfl 4 (by decide) kw61 rfl rfl dX8_begin_24 ?_
      refine aw_iaload (pc := 27) hC (v0 (j := 5) (by decide)) rfl dX8_begin_27 ?_
      refine aw_goto (pc := 28) (tgt := 32) hC dX8_begin_28 (by decide) ?_
      exact aw_iretR hC dX8_begin_32
theorem dX0_copy_0 : decode cX0_copy 0 = .ok (.aload_n 1, 1) := by decide +kernel
theorem dX0_copy_1 : decode cX0_copy 1 = .ok (.getfield 11, 3) := by decide +kernel
theorem dX0_copy_4 : decode cX0_copy 4 = .ok (.iconst 0, 1) := by decide +kernel
theorem dX0_copy_5 : decode cX0_copy 5 = .ok (.aload_n 0, 1) := by decide +kernel
theorem dX0_copy_6 : decode cX0_copy 6 = .ok (.getfield 11, 3) := by decide +kernel
theorem dX0_copy_9 : decode cX0_copy 9 = .ok (.iconst 0, 1) := by decide +kernel
theorem dX0_copy_10 : decode cX0_copy 10 = .ok (.aload_n 0, 1) := by decide +kernel
theorem dX0_copy_11 : decode cX0_copy 11 = .ok (.getfield 11, 3) := by decide +kernel
theorem dX0_copy_14 : decode cX0_copy 14 = .ok (.arraylength, 1) := by decide +kernel
theorem dX0_copy_15 : decode cX0_copy 15 = .ok (.invokestatic 15, 3) := by decide +kernel
theorem dX0_copy_18 : decode cX0_copy 18 = .ok (.aload_n 0, 1) := by decide +kernel
theorem dX0_copy_19 : decode cX0_copy 19 = .ok (.aload_n 1, 1) := by decide +kernel
theorem dX0_copy_20 : decode cX0_copy 20 = .ok (.getfield 21, 3) := by decide +kernel
theorem dX0_copy_23 : decode cX0_copy 23 = .ok (.putfield 21, 3) := by decide +kernel
theorem dX0_copy_26 : decode cX0_copy 26 = .ok (.aload_n 0, 1) := by decide +kernel
theorem dX0_copy_27 : decode cX0_copy 27 = .ok (.aload_n 1, 1) := by decide +kernel
theorem dX0_copy_28 : decode cX0_copy 28 = .ok (.getfield 25, 3) := by decide +kernel
theorem dX0_copy_31 : decode cX0_copy 31 = .ok (.putfield 25, 3) := by decide +kernel
theorem dX0_copy_34 : decode cX0_copy 34 = .ok (.return_, 1) := by decide +kernel
def f_X0_copy (h h1 : Nat) (μ : Mem) : Option (Mem) := cpx 0 0 240 240 240 (nm (cpm μ (h1 + 1) 6 (Int32.toNatClampNeg 0) (h + 1) 6 (Int32.toNatClampNeg 0) (Int32.toNatClampNeg 240)) fun (μ1 : Mem) => nm (upm μ1 (h + 1) 5 1 (μ1 (h1 + 1) 5 1)) fun (μ2 : Mem) => nm (upm μ2 (h + 1) 5 2 (μ2 (h1 + 1) 5 2)) fun (μ3 : Mem) => some μ3)
set_option maxHeartbeats 4000000 in
set_option maxRecDepth 100000 in
theorem c_X0_copy (G : GG) (l : Launch) (h h1 : Nat) (hh : h < 15) (hh1 : h1 < 15) (μ : Mem) : CV G l yX0_copy (.code yX0_copy cX0_copy 2 none) 2 [.ref (gad G (h + 1) 5), .ref (gad G (h1 + 1) 5)] μ (f_X0_copy h h1 μ) := by
  refine CV.of (own := "SaturdayKeep$Book") (L0 := [some (.ref (gad G (h + 1) 5)), some (.ref (gad G (h1 + 1) 5))]) rfl rfl rfl (Nat.le_of_ble_eq_true rfl) (fun C hl hC => ?_)
  subst hl
  delta f_X0_copy
  refine aw_aload_n (pc := 0) (i := 1) hC dX0_copy_0 rfl rfl ?_
  refine aw_get (pc := 1) hC inX0 (vH (j := 5) hh1 (by decide)) rfl rfl 0 (by decide) kw171 rfl rfl dX0_copy_1 ?_
  refine aw_iconst (pc := 4) (v := 0) hC dX0_copy_4 ic0 ?_
  refine aw_aload_n (pc := 5) (i := 0) hC dX0_copy_5 rfl rfl ?_
  refine aw_get (pc := 6) hC inX0 (vH (j := 5) hh (by decide)) rfl rfl 0 (by decide) kw171 rfl rfl dX0_copy_6 ?_
  refine aw_iconst (pc := 9) (v := 0) hC dX0_copy_9 ic0 ?_
  refine aw_aload_n (pc := 10) (i := 0) hC dX0_copy_10 rfl rfl ?_
  refine aw_get (pc := 11) hC inX0 (vH (j := 5) hh (by decide)) rfl rfl 0 (by decide) kw171 rfl rfl dX0_copy_11 ?_
  refine aw_alen (pc := 14) (v := 240) hC (vH (j := 6) hh (by decide)) rfl (by decide) dX0_copy_14 ?_
  refine aw_copyN (pc := 15) hC kw361 kw356 kw355 kw17 (vH (j := 6) hh1 (by decide)) (vH (j := 6) hh (by decide)) rfl (fun _ => rfl) (by decide) (Nat.le_of_ble_eq_true rfl) dX0_copy_15 (fun μ1 => ?_)
  refine aw_aload_n (pc := 18) (i := 0) hC dX0_copy_18 rfl rfl ?_
  refine aw_aload_n (pc := 19) (i := 1) hC dX0_copy_19 rfl rfl ?_
  refine aw_get (pc := 20) hC inX0 (vH (j := 5) hh1 (by decide)) rfl rfl 1 (by decide) kw172 rfl rfl dX0_copy_20 ?_
  refine aw_putIN (pc := 23) hC inX0 (vH (j := 5) hh (by decide)) rfl rfl 1 (by decide) kw172 rfl tyX0 tyX0_ok nmX0 rfl rfl (Nat.le_of_ble_eq_true rfl) rfl dX0_copy_23 (fun μ2 => ?_)
  refine aw_aload_n (pc := 26) (i := 0) hC dX0_copy_26 rfl rfl ?_
  refine aw_aload_n (pc := 27) (i := 1) hC dX0_copy_27 rfl rfl ?_
  refine aw_get (pc := 28) hC inX0 (vH (j := 5) hh1 (by decide)) rfl rfl 2 (by decide) kw174 rfl rfl dX0_copy_28 ?_
  refine aw_putIN (pc := 31) hC inX0 (vH (j := 5) hh (by decide)) rfl rfl 2 (by decide) kw174 rfl tyX0 tyX0_ok nmX0 rfl rfl (Nat.le_of_ble_eq_true rfl) rfl dX0_copy_31 (fun μ3 => ?_)
  exact aw_vret hC dX0_copy_34
theorem dX0_add_0 : decode cX0_add 0 = .ok (.aload_n 0, 1) := by decide +kernel
theorem dX0_add_1 : decode cX0_add 1 = .ok (.getfield 25, 3) := by decide +kernel
theorem dX0_add_4 : decode cX0_add 4 = .ok (.iconst 4, 1) := by decide +kernel
theorem dX0_add_5 : decode cX0_add 5 = .ok (.imul, 1) := by decide +kernel
theorem dX0_add_6 : decode cX0_add 6 = .ok (.istore 5, 2) := by decide +kernel
theorem dX0_add_8 : decode cX0_add 8 = .ok (.iload 5, 2) := by decide +kernel
theorem dX0_add_10 : decode cX0_add 10 = .ok (.ifCond .lt 15, 3) := by decide +kernel
theorem dX0_add_13 : decode cX0_add 13 = .ok (.iload 5, 2) := by decide +kernel
theorem dX0_add_15 : decode cX0_add 15 = .ok (.iconst 4, 1) := by decide +kernel
theorem dX0_add_16 : decode cX0_add 16 = .ok (.iadd, 1) := by decide +kernel
theorem dX0_add_17 : decode cX0_add 17 = .ok (.aload_n 0, 1) := by decide +kernel
theorem dX0_add_18 : decode cX0_add 18 = .ok (.getfield 11, 3) := by decide +kernel
theorem dX0_add_21 : decode cX0_add 21 = .ok (.arraylength, 1) := by decide +kernel
theorem dX0_add_22 : decode cX0_add 22 = .ok (.if_icmp .le 4, 3) := by decide +kernel
theorem dX0_add_25 : decode cX0_add 25 = .ok (.return_, 1) := by decide +kernel
theorem dX0_add_26 : decode cX0_add 26 = .ok (.aload_n 0, 1) := by decide +kernel
theorem dX0_add_27 : decode cX0_add 27 = .ok (.getfield 11, 3) := by decide +kernel
theorem dX0_add_30 : decode cX0_add 30 = .ok (.iload 5, 2) := by decide +kernel
theorem dX0_add_32 : decode cX0_add 32 = .ok (.iload_n 1, 1) := by decide +kernel
theorem dX0_add_33 : decode cX0_add 33 = .ok (.iastore, 1) := by decide +kernel
theorem dX0_add_34 : decode cX0_add 34 = .ok (.aload_n 0, 1) := by decide +kernel
theorem dX0_add_35 : decode cX0_add 35 = .ok (.getfield 11, 3) := by decide +kernel
theorem dX0_add_38 : decode cX0_add 38 = .ok (.iload 5, 2) := by decide +kernel
theorem dX0_add_40 : decode cX0_add 40 = .ok (.iconst 1, 1) := by decide +kernel
theorem dX0_add_41 : decode cX0_add 41 = .ok (.iadd, 1) := by decide +kernel
theorem dX0_add_42 : decode cX0_add 42 = .ok (.iload_n 2, 1) := by decide +kernel
theorem dX0_add_43 : decode cX0_add 43 = .ok (.iastore, 1) := by decide +kernel
theorem dX0_add_44 : decode cX0_add 44 = .ok (.aload_n 0, 1) := by decide +kernel
theorem dX0_add_45 : decode cX0_add 45 = .ok (.getfield 11, 3) := by decide +kernel
theorem dX0_add_48 : decode cX0_add 48 = .ok (.iload 5, 2) := by decide +kernel
theorem dX0_add_50 : decode cX0_add 50 = .ok (.iconst 2, 1) := by decide +kernel
theorem dX0_add_51 : decode cX0_add 51 = .ok (.iadd, 1) := by decide +kernel
theorem dX0_add_52 : decode cX0_add 52 = .ok (.iload_n 3, 1) := by decide +kernel
theorem dX0_add_53 : decode cX0_add 53 = .ok (.iastore, 1) := by decide +kernel
theorem dX0_add_54 : decode cX0_add 54 = .ok (.aload_n 0, 1) := by decide +kernel
theorem dX0_add_55 : decode cX0_add 55 = .ok (.getfield 11, 3) := by decide +kernel
theorem dX0_add_58 : decode cX0_add 58 = .ok (.iload 5, 2) := by decide +kernel
theorem dX0_add_60 : decode cX0_add 60 = .ok (.iconst 3, 1) := by decide +kernel
theorem dX0_add_61 : decode cX0_add 61 = .ok (.iadd, 1) := by decide +kernel
theorem dX0_add_62 : decode cX0_add 62 = .ok (.iload 4, 2) := by decide +kernel
theorem dX0_add_64 : decode cX0_add 64 = .ok (.iastore, 1) := by decide +kernel
theorem dX0_add_65 : decode cX0_add 65 = .ok (.aload_n 0, 1) := by decide +kernel
theorem dX0_add_66 : decode cX0_add 66 = .ok (.aload_n 0, 1) := by decide +kernel
theorem dX0_add_67 : decode cX0_add 67 = .ok (.getfield 25, 3) := by decide +kernel
theorem dX0_add_70 : decode cX0_add 70 = .ok (.iconst 1, 1) := by decide +kernel
theorem dX0_add_71 : decode cX0_add 71 = .ok (.iadd, 1) := by decide +kernel
theorem dX0_add_72 : decode cX0_add 72 = .ok (.bipush 60, 2) := by decide +kernel
theorem dX0_add_74 : decode cX0_add 74 = .ok (.irem, 1) := by decide +kernel
theorem dX0_add_75 : decode cX0_add 75 = .ok (.putfield 25, 3) := by decide +kernel
theorem dX0_add_78 : decode cX0_add 78 = .ok (.aload_n 0, 1) := by decide +kernel
theorem dX0_add_79 : decode cX0_add 79 = .ok (.bipush 60, 2) := by decide +kernel
theorem dX0_add_81 : decode cX0_add 81 = .ok (.aload_n 0, 1) := by decide +kernel
theorem dX0_add_82 : decode cX0_add 82 = .ok (.getfield 21, 3) := by decide +kernel
theorem dX0_add_85 : decode cX0_add 85 = .ok (.iconst 1, 1) := by decide +kernel
theorem dX0_add_86 : decode cX0_add 86 = .ok (.iadd, 1) := by decide +kernel
theorem dX0_add_87 : decode cX0_add 87 = .ok (.invokestatic 28, 3) := by decide +kernel
theorem dX0_add_90 : decode cX0_add 90 = .ok (.putfield 21, 3) := by decide +kernel
theorem dX0_add_93 : decode cX0_add 93 = .ok (.return_, 1) := by decide +kernel
def f_X0_add (h : Nat) (μ : Mem) (a1 : Int32) (a2 : Int32) (a3 : Int32) (a4 : Int32) : Option (Mem) := if ((μ (h + 1) 5 2) * 4) < 0 then (some μ) else (if (((μ (h + 1) 5 2) * 4) + 4) ≤ 240 then (ix ((μ (h + 1) 5 2) * 4) 240 (nm (upm μ (h + 1) 6 ((μ (h + 1) 5 2) * 4).toNatClampNeg a1) fun (μ1 : Mem) => ix (((μ (h + 1) 5 2) * 4) + 1) 240 (nm (upm μ1 (h + 1) 6 (((μ (h + 1) 5 2) * 4) + 1).toNatClampNeg a2) fun (μ2 : Mem) => ix (((μ (h + 1) 5 2) * 4) + 2) 240 (nm (upm μ2 (h + 1) 6 (((μ (h + 1) 5 2) * 4) + 2).toNatClampNeg a3) fun (μ3 : Mem) => ix (((μ (h + 1) 5 2) * 4) + 3) 240 (nm (upm μ3 (h + 1) 6 (((μ (h + 1) 5 2) * 4) + 3).toNatClampNeg a4) fun (μ4 : Mem) => nm (upm μ4 (h + 1) 5 2 (jrem ((μ4 (h + 1) 5 2) + 1) 60)) fun (μ5 : Mem) => nm (upm μ5 (h + 1) 5 1 (jmin 60 ((μ5 (h + 1) 5 1) + 1))) fun (μ6 : Mem) => some μ6))))) else (some μ))
set_option maxHeartbeats 4000000 in
set_option maxRecDepth 100000 in
theorem c_X0_add (G : GG) (l : Launch) (h : Nat) (hh : h < 15) (μ : Mem) (a1 : Int32) (a2 : Int32) (a3 : Int32) (a4 : Int32) : CV G l yX0_add (.code yX0_add cX0_add 6 none) 2 [.ref (gad G (h + 1) 5), .int a1, .int a2, .int a3, .int a4] μ (f_X0_add h μ a1 a2 a3 a4) := by
  refine CV.of (own := "SaturdayKeep$Book") (L0 := [some (.ref (gad G (h + 1) 5)), some (.int a1), some (.int a2), some (.int a3), some (.int a4), none]) rfl rfl rfl (Nat.le_of_ble_eq_true rfl) (fun C hl hC => ?_)
  subst hl
  delta f_X0_add
  refine aw_aload_n (pc := 0) (i := 0) hC dX0_add_0 rfl rfl ?_
  refine aw_get (pc := 1) hC inX0 (vH (j := 5) hh (by decide)) rfl rfl 2 (by decide) kw174 rfl rfl dX0_add_1 ?_
  refine aw_iconst (pc := 4) (v := 4) hC dX0_add_4 ic4 ?_
  refine aw_imul (pc := 5) hC dX0_add_5 ?_
  refine aw_istore (pc := 6) hC dX0_add_6 rfl (by decide) ?_
  refine aw_iload (pc := 8) hC dX0_add_8 rfl ?_
  refine aw_if_lt (pc := 10) (tgt := 25) hC dX0_add_10 (by decide) (fun _ => ?_) (fun _ => ?_)
  · skip
    exact aw_vret hC dX0_add_25
  · skip
    refine aw_iload (pc := 13) hC dX0_add_13 rfl ?_
    refine aw_iconst (pc := 15) (v := 4) hC dX0_add_15 ic4 ?_
    refine aw_iadd (pc := 16) hC dX0_add_16 ?_
    refine aw_aload_n (pc := 17) (i := 0) hC dX0_add_17 rfl rfl ?_
    refine aw_get (pc := 18) hC inX0 (vH (j := 5) hh (by decide)) rfl rfl 0 (by decide) kw171 rfl rfl dX0_add_18 ?_
    refine aw_alen (pc := 21) (v := 240) hC (vH (j := 6) hh (by decide)) rfl (by decide) dX0_add_21 ?_
    refine aw_icmp_le (pc := 22) (tgt := 26) hC dX0_add_22 (by decide) (fun _ => ?_) (fun _ => ?_)
    · skip
      refine aw_aload_n (pc := 26) (i := 0) hC dX0_add_26 rfl rfl ?_
      refine aw_get (pc := 27) hC inX0 (vH (j := 5) hh (by decide)) rfl rfl 0 (by decide) kw171 rfl rfl dX0_add_27 ?_
      refine aw_iload (pc := 30) hC dX0_add_30 rfl ?_
      refine aw_iload_n (pc := 32) (i := 1) hC dX0_add_32 rfl rfl ?_
      refine aw_iastoreN (pc := 33) hC (vH (j := 6) hh (by decide)) (fun _ => rfl) dX0_add_33 (fun μ1 => ?_)
      refine aw_aload_n (pc := 34) (i := 0) hC dX0_add_34 rfl rfl ?_
      refine aw_get (pc := 35) hC inX0 (vH (j := 5) hh (by decide)) rfl rfl 0 (by decide) kw171 rfl rfl dX0_add_35 ?_
      refine aw_iload (pc := 38) hC dX0_add_38 rfl ?_
      refine aw_iconst (pc := 40) (v := 1) hC dX0_add_40 ic1 ?_
      refine aw_iadd (pc := 41) hC dX0_add_41 ?_
      refine aw_iload_n (pc := 42) (i := 2) hC dX0_add_42 rfl rfl ?_
      refine aw_iastoreN (pc := 43) hC (vH (j := 6) hh (by decide)) (fun _ => rfl) dX0_add_43 (fun μ2 => ?_)
      refine aw_aload_n (pc := 44) (i := 0) hC dX0_add_44 rfl rfl ?_
      refine aw_get (pc := 45) hC inX0 (vH (j := 5) hh (by decide)) rfl rfl 0 (by decide) kw171 rfl rfl dX0_add_45 ?_
      refine aw_iload (pc := 48) hC dX0_add_48 rfl ?_
      refine aw_iconst (pc := 50) (v := 2) hC dX0_add_50 ic2 ?_
      refine aw_iadd (pc := 51) hC dX0_add_51 ?_
      refine aw_iload_n (pc := 52) (i := 3) hC dX0_add_52 rfl rfl ?_
      refine aw_iastoreN (pc := 53) hC (vH (j := 6) hh (by decide)) (fun _ => rfl) dX0_add_53 (fun μ3 => ?_)
      refine aw_aload_n (pc := 54) (i := 0) hC dX0_add_54 rfl rfl ?_
      refine aw_get (pc := 55) hC inX0 (vH (j := 5) hh (by decide)) rfl rfl 0 (by decide) kw171 rfl rfl dX0_add_55 ?_
      refine aw_iload (pc := 58) hC dX0_add_58 rfl ?_
      refine aw_iconst (pc := 60) (v := 3) hC dX0_add_60 ic3 ?_
      refine aw_iadd (pc := 61) hC dX0_add_61 ?_
      refine aw_iload (pc := 62) hC dX0_add_62 rfl ?_
      refine aw_iastoreN (pc := 64) hC (vH (j := 6) hh (by decide)) (fun _ => rfl) dX0_add_64 (fun μ4 => ?_)
      refine aw_aload_n (pc := 65) (i := 0) hC dX0_add_65 rfl rfl ?_
      refine aw_aload_n (pc := 66) (i := 0) hC dX0_add_66 rfl rfl ?_
      refine aw_get (pc := 67) hC inX0 (vH (j := 5) hh (by decide)) rfl rfl 2 (by decide) kw174 rfl rfl dX0_add_67 ?_
      refine aw_iconst (pc := 70) (v := 1) hC dX0_add_70 ic1 ?_
      refine aw_iadd (pc := 71) hC dX0_add_71 ?_
      refine aw_bipush (pc := 72) (v := 60) hC dX0_add_72 bc60 ?_
      refine aw_irem (pc := 74) hC dX0_add_74 (by decide) ?_
      refine aw_putIN (pc := 75) hC inX0 (vH (j := 5) hh (by decide)) rfl rfl 2 (by decide) kw174 rfl tyX0 tyX0_ok nmX0 rfl rfl (Nat.le_of_ble_eq_true rfl) rfl dX0_add_75 (fun μ5 => ?_)
      refine aw_aload_n (pc := 78) (i := 0) hC dX0_add_78 rfl rfl ?_
      refine aw_bipush (pc := 79) (v := 60) hC dX0_add_79 bc60 ?_
      refine aw_aload_n (pc := 81) (i := 0) hC dX0_add_81 rfl rfl ?_
      refine aw_get (pc := 82) hC inX0 (vH (j := 5) hh (by decide)) rfl rfl 1 (by decide) kw172 rfl rfl dX0_add_82 ?_
      refine aw_iconst (pc := 85) (v := 1) hC dX0_add_85 ic1 ?_
      refine aw_iadd (pc := 86) hC dX0_add_86 ?_
      refine aw_mmin (pc := 87) hC kw1096 kw367 kw12 kw368 (by decide) (Nat.le_of_ble_eq_true rfl) dX0_add_87 ?_
      refine aw_putIN (pc := 90) hC inX0 (vH (j := 5) hh (by decide)) rfl rfl 1 (by decide) kw172 rfl tyX0 tyX0_ok nmX0 rfl rfl (Nat.le_of_ble_eq_true rfl) rfl dX0_add_90 (fun μ6 => ?_)
      exact aw_vret hC dX0_add_93
    · skip
      exact aw_vret hC dX0_add_25
theorem dX0_cell_0 : decode cX0_cell 0 = .ok (.iload_n 1, 1) := by decide +kernel
theorem dX0_cell_1 : decode cX0_cell 1 = .ok (.ifCond .lt 20, 3) := by decide +kernel
theorem dX0_cell_4 : decode cX0_cell 4 = .ok (.iload_n 1, 1) := by decide +kernel
theorem dX0_cell_5 : decode cX0_cell 5 = .ok (.aload_n 0, 1) := by decide +kernel
theorem dX0_cell_6 : decode cX0_cell 6 = .ok (.getfield 21, 3) := by decide +kernel
theorem dX0_cell_9 : decode cX0_cell 9 = .ok (.if_icmp .ge 12, 3) := by decide +kernel
theorem dX0_cell_12 : decode cX0_cell 12 = .ok (.iload_n 2, 1) := by decide +kernel
theorem dX0_cell_13 : decode cX0_cell 13 = .ok (.ifCond .lt 8, 3) := by decide +kernel
theorem dX0_cell_16 : decode cX0_cell 16 = .ok (.iload_n 2, 1) := by decide +kernel
theorem dX0_cell_17 : decode cX0_cell 17 = .ok (.iconst 4, 1) := by decide +kernel
theorem dX0_cell_18 : decode cX0_cell 18 = .ok (.if_icmp .lt 5, 3) := by decide +kernel
theorem dX0_cell_21 : decode cX0_cell 21 = .ok (.iconst (-1), 1) := by decide +kernel
theorem dX0_cell_22 : decode cX0_cell 22 = .ok (.ireturn, 1) := by decide +kernel
theorem dX0_cell_23 : decode cX0_cell 23 = .ok (.aload_n 0, 1) := by decide +kernel
theorem dX0_cell_24 : decode cX0_cell 24 = .ok (.getfield 25, 3) := by decide +kernel
theorem dX0_cell_27 : decode cX0_cell 27 = .ok (.iconst 1, 1) := by decide +kernel
theorem dX0_cell_28 : decode cX0_cell 28 = .ok (.isub, 1) := by decide +kernel
theorem dX0_cell_29 : decode cX0_cell 29 = .ok (.iload_n 1, 1) := by decide +kernel
theorem dX0_cell_30 : decode cX0_cell 30 = .ok (.isub, 1) := by decide +kernel
theorem dX0_cell_31 : decode cX0_cell 31 = .ok (.bipush 60, 2) := by decide +kernel
theorem dX0_cell_33 : decode cX0_cell 33 = .ok (.invokestatic 34, 3) := by decide +kernel
theorem dX0_cell_36 : decode cX0_cell 36 = .ok (.iconst 4, 1) := by decide +kernel
theorem dX0_cell_37 : decode cX0_cell 37 = .ok (.imul, 1) := by decide +kernel
theorem dX0_cell_38 : decode cX0_cell 38 = .ok (.iload_n 2, 1) := by decide +kernel
theorem dX0_cell_39 : decode cX0_cell 39 = .ok (.iadd, 1) := by decide +kernel
theorem dX0_cell_40 : decode cX0_cell 40 = .ok (.istore_n 3, 1) := by decide +kernel
theorem dX0_cell_41 : decode cX0_cell 41 = .ok (.iload_n 3, 1) := by decide +kernel
theorem dX0_cell_42 : decode cX0_cell 42 = .ok (.aload_n 0, 1) := by decide +kernel
theorem dX0_cell_43 : decode cX0_cell 43 = .ok (.getfield 11, 3) := by decide +kernel
theorem dX0_cell_46 : decode cX0_cell 46 = .ok (.arraylength, 1) := by decide +kernel
theorem dX0_cell_47 : decode cX0_cell 47 = .ok (.if_icmp .ge 12, 3) := by decide +kernel
theorem dX0_cell_50 : decode cX0_cell 50 = .ok (.aload_n 0, 1) := by decide +kernel
theorem dX0_cell_51 : decode cX0_cell 51 = .ok (.getfield 11, 3) := by decide +kernel
theorem dX0_cell_54 : decode cX0_cell 54 = .ok (.iload_n 3, 1) := by decide +kernel
theorem dX0_cell_55 : decode cX0_cell 55 = .ok (.iaload, 1) := by decide +kernel
theorem dX0_cell_56 : decode cX0_cell 56 = .ok (.goto 4, 3) := by decide +kernel
theorem dX0_cell_59 : decode cX0_cell 59 = .ok (.iconst (-1), 1) := by decide +kernel
theorem dX0_cell_60 : decode cX0_cell 60 = .ok (.ireturn, 1) := by decide +kernel
def f_X0_cell (h : Nat) (μ : Mem) (a1 : Int32) (a2 : Int32) : Option (Int32) := if a1 < 0 then (some (-1)) else (if (μ (h + 1) 5 1) ≤ a1 then (some (-1)) else (if a2 < 0 then (some (-1)) else (if a2 < 4 then ((f_J9_floorMod_7cf53 (((μ (h + 1) 5 2) - 1) - a1) 60).bind fun (q1 : Int32) => if 240 ≤ ((q1 * 4) + a2) then (some (-1)) else (ix ((q1 * 4) + a2) 240 (some (μ (h + 1) 6 ((q1 * 4) + a2).toNatClampNeg)))) else (some (-1)))))
set_option maxHeartbeats 4000000 in
set_option maxRecDepth 100000 in
theorem c_X0_cell (G : GG) (l : Launch) (h : Nat) (hh : h < 15) (μ : Mem) (a1 : Int32) (a2 : Int32) : CR G l yX0_cell (.code yX0_cell cX0_cell 4 (some .int)) 2 [.ref (gad G (h + 1) 5), .int a1, .int a2] μ (f_X0_cell h μ a1 a2) := by
  refine CR.of (own := "SaturdayKeep$Book") (L0 := [some (.ref (gad G (h + 1) 5)), some (.int a1), some (.int a2), none]) rfl rfl rfl (Nat.le_of_ble_eq_true rfl) (fun C hl hC => ?_)
  subst hl
  delta f_X0_cell
  refine aw_iload_n (pc := 0) (i := 1) hC dX0_cell_0 rfl rfl ?_
  refine aw_if_lt (pc := 1) (tgt := 21) hC dX0_cell_1 (by decide) (fun _ => ?_) (fun _ => ?_)
  · skip
    refine aw_iconst (pc := 21) (v := (-1)) hC dX0_cell_21 icm1 ?_
    exact aw_iretR hC dX0_cell_22
  · skip
    refine aw_iload_n (pc := 4) (i := 1) hC dX0_cell_4 rfl rfl ?_
    refine aw_aload_n (pc := 5) (i := 0) hC dX0_cell_5 rfl rfl ?_
    refine aw_get (pc := 6) hC inX0 (vH (j := 5) hh (by decide)) rfl rfl 1 (by decide) kw172 rfl rfl dX0_cell_6 ?_
    refine aw_icmp_ge (pc := 9) (tgt := 21) hC dX0_cell_9 (by decide) (fun _ => ?_) (fun _ => ?_)
    · skip
      refine aw_iconst (pc := 21) (v := (-1)) hC dX0_cell_21 icm1 ?_
      exact aw_iretR hC dX0_cell_22
    · skip
      refine aw_iload_n (pc := 12) (i := 2) hC dX0_cell_12 rfl rfl ?_
      refine aw_if_lt (pc := 13) (tgt := 21) hC dX0_cell_13 (by decide) (fun _ => ?_) (fun _ => ?_)
      · skip
        refine aw_iconst (pc := 21) (v := (-1)) hC dX0_cell_21 icm1 ?_
        exact aw_iretR hC dX0_cell_22
      · skip
        refine aw_iload_n (pc := 16) (i := 2) hC dX0_cell_16 rfl rfl ?_
        refine aw_iconst (pc := 17) (v := 4) hC dX0_cell_17 ic4 ?_
        refine aw_icmp_lt (pc := 18) (tgt := 23) hC dX0_cell_18 (by decide) (fun _ => ?_) (fun _ => ?_)
        · skip
          refine aw_aload_n (pc := 23) (i := 0) hC dX0_cell_23 rfl rfl ?_
          refine aw_get (pc := 24) hC inX0 (vH (j := 5) hh (by decide)) rfl rfl 2 (by decide) kw174 rfl rfl dX0_cell_24 ?_
          refine aw_iconst (pc := 27) (v := 1) hC dX0_cell_27 ic1 ?_
          refine aw_isub (pc := 28) hC dX0_cell_28 ?_
          refine aw_iload_n (pc := 29) (i := 1) hC dX0_cell_29 rfl rfl ?_
          refine aw_isub (pc := 30) hC dX0_cell_30 ?_
          refine aw_bipush (pc := 31) (v := 60) hC dX0_cell_31 bc60 ?_
          refine aw_callSR (pc := 33) (As := [.int (((μ (h + 1) 5 2) - 1) - a1), .int 60]) hC ms_J9_floorMod_7cf53 kw1294 (by decide) (c_J9_floorMod_7cf53 G C.2.1   μ (((μ (h + 1) 5 2) - 1) - a1) 60) rfl (Nat.le_of_ble_eq_true rfl) dX0_cell_33 (fun q1 => ?_)
          refine aw_iconst (pc := 36) (v := 4) hC dX0_cell_36 ic4 ?_
          refine aw_imul (pc := 37) hC dX0_cell_37 ?_
          refine aw_iload_n (pc := 38) (i := 2) hC dX0_cell_38 rfl rfl ?_
          refine aw_iadd (pc := 39) hC dX0_cell_39 ?_
          refine aw_istore_n (pc := 40) (i := 3) hC dX0_cell_40 rfl rfl (by decide) ?_
          refine aw_iload_n (pc := 41) (i := 3) hC dX0_cell_41 rfl rfl ?_
          refine aw_aload_n (pc := 42) (i := 0) hC dX0_cell_42 rfl rfl ?_
          refine aw_get (pc := 43) hC inX0 (vH (j := 5) hh (by decide)) rfl rfl 0 (by decide) kw171 rfl rfl dX0_cell_43 ?_
          refine aw_alen (pc := 46) (v := 240) hC (vH (j := 6) hh (by decide)) rfl (by decide) dX0_cell_46 ?_
          refine aw_icmp_ge (pc := 47) (tgt := 59) hC dX0_cell_47 (by decide) (fun _ => ?_) (fun _ => ?_)
          · skip
            refine aw_iconst (pc := 59) (v := (-1)) hC dX0_cell_59 icm1 ?_
            exact aw_iretR hC dX0_cell_60
          · skip
            refine aw_aload_n (pc := 50) (i := 0) hC dX0_cell_50 rfl rfl ?_
            refine aw_get (pc := 51) hC inX0 (vH (j := 5) hh (by decide)) rfl rfl 0 (by decide) kw171 rfl rfl dX0_cell_51 ?_
            refine aw_iload_n (pc := 54) (i := 3) hC dX0_cell_54 rfl rfl ?_
            refine aw_iaload (pc := 55) hC (vH (j := 6) hh (by decide)) rfl dX0_cell_55 ?_
            refine aw_goto (pc := 56) (tgt := 60) hC dX0_cell_56 (by decide) ?_
            exact aw_iretR hC dX0_cell_60
        · skip
          refine aw_iconst (pc := 21) (v := (-1)) hC dX0_cell_21 icm1 ?_
          exact aw_iretR hC dX0_cell_22
theorem dX0_latestDayOf_0 : decode cX0_latestDayOf 0 = .ok (.iconst 0, 1) := by decide +kernel
theorem dX0_latestDayOf_1 : decode cX0_latestDayOf 1 = .ok (.istore_n 2, 1) := by decide +kernel
theorem dX0_latestDayOf_2 : decode cX0_latestDayOf 2 = .ok (.iload_n 2, 1) := by decide +kernel
theorem dX0_latestDayOf_3 : decode cX0_latestDayOf 3 = .ok (.aload_n 0, 1) := by decide +kernel
theorem dX0_latestDayOf_4 : decode cX0_latestDayOf 4 = .ok (.getfield 21, 3) := by decide +kernel
theorem dX0_latestDayOf_7 : decode cX0_latestDayOf 7 = .ok (.if_icmp .ge 26, 3) := by decide +kernel
theorem dX0_latestDayOf_10 : decode cX0_latestDayOf 10 = .ok (.aload_n 0, 1) := by decide +kernel
theorem dX0_latestDayOf_11 : decode cX0_latestDayOf 11 = .ok (.iload_n 2, 1) := by decide +kernel
theorem dX0_latestDayOf_12 : decode cX0_latestDayOf 12 = .ok (.iconst 1, 1) := by decide +kernel
theorem dX0_latestDayOf_13 : decode cX0_latestDayOf 13 = .ok (.invokevirtual 37, 3) := by decide +kernel
theorem dX0_latestDayOf_16 : decode cX0_latestDayOf 16 = .ok (.iload_n 1, 1) := by decide +kernel
theorem dX0_latestDayOf_17 : decode cX0_latestDayOf 17 = .ok (.if_icmp .ne 10, 3) := by decide +kernel
theorem dX0_latestDayOf_20 : decode cX0_latestDayOf 20 = .ok (.aload_n 0, 1) := by decide +kernel
theorem dX0_latestDayOf_21 : decode cX0_latestDayOf 21 = .ok (.iload_n 2, 1) := by decide +kernel
theorem dX0_latestDayOf_22 : decode cX0_latestDayOf 22 = .ok (.iconst 0, 1) := by decide +kernel
theorem dX0_latestDayOf_23 : decode cX0_latestDayOf 23 = .ok (.invokevirtual 37, 3) := by decide +kernel
theorem dX0_latestDayOf_26 : decode cX0_latestDayOf 26 = .ok (.ireturn, 1) := by decide +kernel
theorem dX0_latestDayOf_27 : decode cX0_latestDayOf 27 = .ok (.iinc 2 1, 3) := by decide +kernel
theorem dX0_latestDayOf_30 : decode cX0_latestDayOf 30 = .ok (.goto (-28), 3) := by decide +kernel
theorem dX0_latestDayOf_33 : decode cX0_latestDayOf 33 = .ok (.iconst (-1), 1) := by decide +kernel
theorem dX0_latestDayOf_34 : decode cX0_latestDayOf 34 = .ok (.ireturn, 1) := by decide +kernel
def lp_X0_latestDayOf_2 (a1 : Int32) (h : Nat) (μ : Mem) (k20 : Int32 → Option (Int32)) : Nat → Int32 → Option (Int32)
  | 0, _ => none
  | n + 1, x2 => if (μ (h + 1) 5 1) ≤ x2 then (some (-1)) else ((f_X0_cell h μ x2 1).bind fun (q3 : Int32) => if q3 = a1 then (k20 x2) else (lp_X0_latestDayOf_2 a1 h μ k20 n (x2 + 1)))
def f_X0_latestDayOf (h : Nat) (μ : Mem) (a1 : Int32) : Option (Int32) := lp_X0_latestDayOf_2 a1 h μ (fun (x1 : Int32) => (f_X0_cell h μ x1 0).bind fun (q4 : Int32) => some q4) 4096 0
set_option maxHeartbeats 4000000 in
set_option maxRecDepth 100000 in
theorem c_X0_latestDayOf (G : GG) (l : Launch) (h : Nat) (hh : h < 15) (μ : Mem) (a1 : Int32) : CR G l yX0_latestDayOf (.code yX0_latestDayOf cX0_latestDayOf 3 (some .int)) 3 [.ref (gad G (h + 1) 5), .int a1] μ (f_X0_latestDayOf h μ a1) := by
  refine CR.of (own := "SaturdayKeep$Book") (L0 := [some (.ref (gad G (h + 1) 5)), some (.int a1), none]) rfl rfl rfl (Nat.le_of_ble_eq_true rfl) (fun C hl hC => ?_)
  subst hl
  delta f_X0_latestDayOf
  refine aw_iconst (pc := 0) (v := 0) hC dX0_latestDayOf_0 ic0 ?_
  refine aw_istore_n (pc := 1) (i := 2) hC dX0_latestDayOf_1 rfl rfl (by decide) ?_
  have hL2 : ∀ (k20 : Int32 → Option (Int32)) (hk20 : ∀ (x1 : Int32), AW G C (qR G C 0 0 μ) 0 0 3 μ 20 [some (.ref (gad G (h + 1) 5)), none, some (.int x1)] [] (k20 x1)) (n : Nat) (x2 : Int32), AW G C (qR G C 0 0 μ) 0 0 3 μ 2 [some (.ref (gad G (h + 1) 5)), some (.int a1), some (.int x2)] [] (lp_X0_latestDayOf_2 a1 h μ k20 n x2) := by
    intro k20 hk20 n
    induction n with
    | zero => intro x2; exact aw_none
    | succ n ih =>
      intro x2
      rw [lp_X0_latestDayOf_2]
      refine aw_iload_n (pc := 2) (i := 2) hC dX0_latestDayOf_2 rfl rfl ?_
      refine aw_aload_n (pc := 3) (i := 0) hC dX0_latestDayOf_3 rfl rfl ?_
      refine aw_get (pc := 4) hC inX0 (vH (j := 5) hh (by decide)) rfl rfl 1 (by decide) kw172 rfl rfl dX0_latestDayOf_4 ?_
      refine aw_icmp_ge (pc := 7) (tgt := 33) hC dX0_latestDayOf_7 (by decide) (fun _ => ?_) (fun _ => ?_)
      · skip
        refine aw_iconst (pc := 33) (v := (-1)) hC dX0_latestDayOf_33 icm1 ?_
        exact aw_iretR hC dX0_latestDayOf_34
      · skip
        refine aw_aload_n (pc := 10) (i := 0) hC dX0_latestDayOf_10 rfl rfl ?_
        refine aw_iload_n (pc := 11) (i := 2) hC dX0_latestDayOf_11 rfl rfl ?_
        refine aw_iconst (pc := 12) (v := 1) hC dX0_latestDayOf_12 ic1 ?_
        refine aw_callVR (pc := 13) (As := [.int x2, .int 1]) hC mb_X0_cell kw1290 (by decide) (c_X0_cell G C.2.1 h (Nat.lt_of_lt_of_le hh (by decide)) μ x2 1) (vH (j := 5) hh (by decide)) rfl rfl rfl (Nat.le_of_ble_eq_true rfl) dX0_latestDayOf_13 (fun q3 => ?_)
        refine aw_iload_n (pc := 16) (i := 1) hC dX0_latestDayOf_16 rfl rfl ?_
        refine aw_icmp_ne (pc := 17) (tgt := 27) hC dX0_latestDayOf_17 (by decide) (fun _ => ?_) (fun _ => ?_)
        · skip
          exact aw_drop [1] (hk20 x2)
        · skip
          refine aw_iinc (pc := 27) (v := x2 + 1) hC dX0_latestDayOf_27 rfl (congrArg (HAdd.hAdd _) ic1) rfl (by decide) ?_
          refine aw_goto (pc := 30) (tgt := 2) hC dX0_latestDayOf_30 (by decide) ?_
          exact ih (x2 + 1)
  refine hL2 (fun (x1 : Int32) => (f_X0_cell h μ x1 0).bind fun (q4 : Int32) => some q4) (fun x1 => ?_) 4096 0
  · skip
    refine aw_aload_n (pc := 20) (i := 0) hC dX0_latestDayOf_20 rfl rfl ?_
    refine aw_iload_n (pc := 21) (i := 2) hC dX0_latestDayOf_21 rfl rfl ?_
    refine aw_iconst (pc := 22) (v := 0) hC dX0_latestDayOf_22 ic0 ?_
    refine aw_callVR (pc := 23) (As := [.int x1, .int 0]) hC mb_X0_cell kw1290 (by decide) (c_X0_cell G C.2.1 h (Nat.lt_of_lt_of_le hh (by decide)) μ x1 0) (vH (j := 5) hh (by decide)) rfl rfl rfl (Nat.le_of_ble_eq_true rfl) dX0_latestDayOf_23 (fun q4 => ?_)
    exact aw_iretR hC dX0_latestDayOf_26
theorem dX0_rowsOf_0 : decode cX0_rowsOf 0 = .ok (.iconst 0, 1) := by decide +kernel
theorem dX0_rowsOf_1 : decode cX0_rowsOf 1 = .ok (.istore_n 2, 1) := by decide +kernel
theorem dX0_rowsOf_2 : decode cX0_rowsOf 2 = .ok (.iconst 0, 1) := by decide +kernel
theorem dX0_rowsOf_3 : decode cX0_rowsOf 3 = .ok (.istore_n 3, 1) := by decide +kernel
theorem dX0_rowsOf_4 : decode cX0_rowsOf 4 = .ok (.iload_n 3, 1) := by decide +kernel
theorem dX0_rowsOf_5 : decode cX0_rowsOf 5 = .ok (.aload_n 0, 1) := by decide +kernel
theorem dX0_rowsOf_6 : decode cX0_rowsOf 6 = .ok (.getfield 21, 3) := by decide +kernel
theorem dX0_rowsOf_9 : decode cX0_rowsOf 9 = .ok (.if_icmp .ge 27, 3) := by decide +kernel
theorem dX0_rowsOf_12 : decode cX0_rowsOf 12 = .ok (.iload_n 2, 1) := by decide +kernel
theorem dX0_rowsOf_13 : decode cX0_rowsOf 13 = .ok (.aload_n 0, 1) := by decide +kernel
theorem dX0_rowsOf_14 : decode cX0_rowsOf 14 = .ok (.iload_n 3, 1) := by decide +kernel
theorem dX0_rowsOf_15 : decode cX0_rowsOf 15 = .ok (.iconst 1, 1) := by decide +kernel
theorem dX0_rowsOf_16 : decode cX0_rowsOf 16 = .ok (.invokevirtual 37, 3) := by decide +kernel
theorem dX0_rowsOf_19 : decode cX0_rowsOf 19 = .ok (.iload_n 1, 1) := by decide +kernel
theorem dX0_rowsOf_20 : decode cX0_rowsOf 20 = .ok (.if_icmp .ne 7, 3) := by decide +kernel
theorem dX0_rowsOf_23 : decode cX0_rowsOf 23 = .ok (.iconst 1, 1) := by decide +kernel
theorem dX0_rowsOf_24 : decode cX0_rowsOf 24 = .ok (.goto 4, 3) := by decide +kernel
theorem dX0_rowsOf_27 : decode cX0_rowsOf 27 = .ok (.iconst 0, 1) := by decide +kernel
theorem dX0_rowsOf_28 : decode cX0_rowsOf 28 = .ok (.iadd, 1) := by decide +kernel
theorem dX0_rowsOf_29 : decode cX0_rowsOf 29 = .ok (.istore_n 2, 1) := by decide +kernel
theorem dX0_rowsOf_30 : decode cX0_rowsOf 30 = .ok (.iinc 3 1, 3) := by decide +kernel
theorem dX0_rowsOf_33 : decode cX0_rowsOf 33 = .ok (.goto (-29), 3) := by decide +kernel
theorem dX0_rowsOf_36 : decode cX0_rowsOf 36 = .ok (.iload_n 2, 1) := by decide +kernel
theorem dX0_rowsOf_37 : decode cX0_rowsOf 37 = .ok (.ireturn, 1) := by decide +kernel
def lp_X0_rowsOf_4 (a1 : Int32) (h : Nat) (μ : Mem) : Nat → Int32 → Int32 → Option (Int32)
  | 0, _, _ => none
  | n + 1, x1, x2 => if (μ (h + 1) 5 1) ≤ x2 then (some x1) else ((f_X0_cell h μ x2 1).bind fun (q3 : Int32) => if q3 = a1 then (lp_X0_rowsOf_4 a1 h μ n (x1 + 1) (x2 + 1)) else (lp_X0_rowsOf_4 a1 h μ n (x1 + 0) (x2 + 1)))
def f_X0_rowsOf (h : Nat) (μ : Mem) (a1 : Int32) : Option (Int32) := lp_X0_rowsOf_4 a1 h μ 4096 0 0
set_option maxHeartbeats 4000000 in
set_option maxRecDepth 100000 in
theorem c_X0_rowsOf (G : GG) (l : Launch) (h : Nat) (hh : h < 15) (μ : Mem) (a1 : Int32) : CR G l yX0_rowsOf (.code yX0_rowsOf cX0_rowsOf 4 (some .int)) 3 [.ref (gad G (h + 1) 5), .int a1] μ (f_X0_rowsOf h μ a1) := by
  refine CR.of (own := "SaturdayKeep$Book") (L0 := [some (.ref (gad G (h + 1) 5)), some (.int a1), none, none]) rfl rfl rfl (Nat.le_of_ble_eq_true rfl) (fun C hl hC => ?_)
  subst hl
  delta f_X0_rowsOf
  refine aw_iconst (pc := 0) (v := 0) hC dX0_rowsOf_0 ic0 ?_
  refine aw_istore_n (pc := 1) (i := 2) hC dX0_rowsOf_1 rfl rfl (by decide) ?_
  refine aw_iconst (pc := 2) (v := 0) hC dX0_rowsOf_2 ic0 ?_
  refine aw_istore_n (pc := 3) (i := 3) hC dX0_rowsOf_3 rfl rfl (by decide) ?_
  have hL4 : ∀ (n : Nat) (x1 : Int32) (x2 : Int32), AW G C (qR G C 0 0 μ) 0 0 4 μ 4 [some (.ref (gad G (h + 1) 5)), some (.int a1), some (.int x1), some (.int x2)] [] (lp_X0_rowsOf_4 a1 h μ n x1 x2) := by
    intro n
    induction n with
    | zero => intro x1 x2; exact aw_none
    | succ n ih =>
      intro x1 x2
      rw [lp_X0_rowsOf_4]
      refine aw_iload_n (pc := 4) (i := 3) hC dX0_rowsOf_4 rfl rfl ?_
      refine aw_aload_n (pc := 5) (i := 0) hC dX0_rowsOf_5 rfl rfl ?_
      refine aw_get (pc := 6) hC inX0 (vH (j := 5) hh (by decide)) rfl rfl 1 (by decide) kw172 rfl rfl dX0_rowsOf_6 ?_
      refine aw_icmp_ge (pc := 9) (tgt := 36) hC dX0_rowsOf_9 (by decide) (fun _ => ?_) (fun _ => ?_)
      · skip
        refine aw_iload_n (pc := 36) (i := 2) hC dX0_rowsOf_36 rfl rfl ?_
        exact aw_iretR hC dX0_rowsOf_37
      · skip
        refine aw_iload_n (pc := 12) (i := 2) hC dX0_rowsOf_12 rfl rfl ?_
        refine aw_aload_n (pc := 13) (i := 0) hC dX0_rowsOf_13 rfl rfl ?_
        refine aw_iload_n (pc := 14) (i := 3) hC dX0_rowsOf_14 rfl rfl ?_
        refine aw_iconst (pc := 15) (v := 1) hC dX0_rowsOf_15 ic1 ?_
        refine aw_callVR (pc := 16) (As := [.int x2, .int 1]) hC mb_X0_cell kw1290 (by decide) (c_X0_cell G C.2.1 h (Nat.lt_of_lt_of_le hh (by decide)) μ x2 1) (vH (j := 5) hh (by decide)) rfl rfl rfl (Nat.le_of_ble_eq_true rfl) dX0_rowsOf_16 (fun q3 => ?_)
        refine aw_iload_n (pc := 19) (i := 1) hC dX0_rowsOf_19 rfl rfl ?_
        refine aw_icmp_ne (pc := 20) (tgt := 27) hC dX0_rowsOf_20 (by decide) (fun _ => ?_) (fun _ => ?_)
        · skip
          refine aw_iconst (pc := 23) (v := 1) hC dX0_rowsOf_23 ic1 ?_
          refine aw_goto (pc := 24) (tgt := 28) hC dX0_rowsOf_24 (by decide) ?_
          refine aw_iadd (pc := 28) hC dX0_rowsOf_28 ?_
          refine aw_istore_n (pc := 29) (i := 2) hC dX0_rowsOf_29 rfl rfl (by decide) ?_
          refine aw_iinc (pc := 30) (v := x2 + 1) hC dX0_rowsOf_30 rfl (congrArg (HAdd.hAdd _) ic1) rfl (by decide) ?_
          refine aw_goto (pc := 33) (tgt := 4) hC dX0_rowsOf_33 (by decide) ?_
          exact ih (x1 + 1) (x2 + 1)
        · skip
          refine aw_iconst (pc := 27) (v := 0) hC dX0_rowsOf_27 ic0 ?_
          refine aw_iadd (pc := 28) hC dX0_rowsOf_28 ?_
          refine aw_istore_n (pc := 29) (i := 2) hC dX0_rowsOf_29 rfl rfl (by decide) ?_
          refine aw_iinc (pc := 30) (v := x2 + 1) hC dX0_rowsOf_30 rfl (congrArg (HAdd.hAdd _) ic1) rfl (by decide) ?_
          refine aw_goto (pc := 33) (tgt := 4) hC dX0_rowsOf_33 (by decide) ?_
          exact ih (x1 + 0) (x2 + 1)
  exact hL4 4096 0 0
theorem dX4_copy_0 : decode cX4_copy 0 = .ok (.aload_n 0, 1) := by decide +kernel
theorem dX4_copy_1 : decode cX4_copy 1 = .ok (.iconst 0, 1) := by decide +kernel
theorem dX4_copy_2 : decode cX4_copy 2 = .ok (.aload_n 1, 1) := by decide +kernel
theorem dX4_copy_3 : decode cX4_copy 3 = .ok (.getfield 22, 3) := by decide +kernel
theorem dX4_copy_6 : decode cX4_copy 6 = .ok (.aload_n 0, 1) := by decide +kernel
theorem dX4_copy_7 : decode cX4_copy 7 = .ok (.getfield 9, 3) := by decide +kernel
theorem dX4_copy_10 : decode cX4_copy 10 = .ok (.arraylength, 1) := by decide +kernel
theorem dX4_copy_11 : decode cX4_copy 11 = .ok (.invokestatic 25, 3) := by decide +kernel
theorem dX4_copy_14 : decode cX4_copy 14 = .ok (.invokestatic 31, 3) := by decide +kernel
theorem dX4_copy_17 : decode cX4_copy 17 = .ok (.putfield 22, 3) := by decide +kernel
theorem dX4_copy_20 : decode cX4_copy 20 = .ok (.aload_n 1, 1) := by decide +kernel
theorem dX4_copy_21 : decode cX4_copy 21 = .ok (.getfield 9, 3) := by decide +kernel
theorem dX4_copy_24 : decode cX4_copy 24 = .ok (.iconst 0, 1) := by decide +kernel
theorem dX4_copy_25 : decode cX4_copy 25 = .ok (.aload_n 0, 1) := by decide +kernel
theorem dX4_copy_26 : decode cX4_copy 26 = .ok (.getfield 9, 3) := by decide +kernel
theorem dX4_copy_29 : decode cX4_copy 29 = .ok (.iconst 0, 1) := by decide +kernel
theorem dX4_copy_30 : decode cX4_copy 30 = .ok (.aload_n 0, 1) := by decide +kernel
theorem dX4_copy_31 : decode cX4_copy 31 = .ok (.getfield 22, 3) := by decide +kernel
theorem dX4_copy_34 : decode cX4_copy 34 = .ok (.invokestatic 34, 3) := by decide +kernel
theorem dX4_copy_37 : decode cX4_copy 37 = .ok (.aload_n 0, 1) := by decide +kernel
theorem dX4_copy_38 : decode cX4_copy 38 = .ok (.aload_n 1, 1) := by decide +kernel
theorem dX4_copy_39 : decode cX4_copy 39 = .ok (.getfield 18, 3) := by decide +kernel
theorem dX4_copy_42 : decode cX4_copy 42 = .ok (.putfield 18, 3) := by decide +kernel
theorem dX4_copy_45 : decode cX4_copy 45 = .ok (.return_, 1) := by decide +kernel
def f_X4_copy (h h1 : Nat) (μ : Mem) : Option (Mem) := nm (upm μ (h + 1) 7 2 (jmax 0 (jmin (μ (h1 + 1) 7 2) 400))) fun (μ1 : Mem) => cpx 0 0 (μ1 (h + 1) 7 2) 400 400 (nm (cpm μ1 (h1 + 1) 8 (Int32.toNatClampNeg 0) (h + 1) 8 (Int32.toNatClampNeg 0) (μ1 (h + 1) 7 2).toNatClampNeg) fun (μ2 : Mem) => nm (upm μ2 (h + 1) 7 4 (μ2 (h1 + 1) 7 4)) fun (μ3 : Mem) => some μ3)
set_option maxHeartbeats 4000000 in
set_option maxRecDepth 100000 in
theorem c_X4_copy (G : GG) (l : Launch) (h h1 : Nat) (hh : h < 16) (hh1 : h1 < 16) (μ : Mem) : CV G l yX4_copy (.code yX4_copy cX4_copy 2 none) 2 [.ref (gad G (h + 1) 7), .ref (gad G (h1 + 1) 7)] μ (f_X4_copy h h1 μ) := by
  refine CV.of (own := "SaturdayKeep$Law") (L0 := [some (.ref (gad G (h + 1) 7)), some (.ref (gad G (h1 + 1) 7))]) rfl rfl rfl (Nat.le_of_ble_eq_true rfl) (fun C hl hC => ?_)
  subst hl
  delta f_X4_copy
  refine aw_aload_n (pc := 0) (i := 0) hC dX4_copy_0 rfl rfl ?_
  refine aw_iconst (pc := 1) (v := 0) hC dX4_copy_1 ic0 ?_
  refine aw_aload_n (pc := 2) (i := 1) hC dX4_copy_2 rfl rfl ?_
  refine aw_get (pc := 3) hC inX4 (vL (j := 7) hh1 (by decide)) rfl rfl 2 (by decide) kw103 rfl rfl dX4_copy_3 ?_
  refine aw_aload_n (pc := 6) (i := 0) hC dX4_copy_6 rfl rfl ?_
  refine aw_get (pc := 7) hC inX4 (vL (j := 7) hh (by decide)) rfl rfl 0 (by decide) kw101 rfl rfl dX4_copy_7 ?_
  refine aw_alen (pc := 10) (v := 400) hC (vL (j := 8) hh (by decide)) rfl (by decide) dX4_copy_10 ?_
  refine aw_mmin (pc := 11) hC kw366 kw367 kw12 kw368 (by decide) (Nat.le_of_ble_eq_true rfl) dX4_copy_11 ?_
  refine aw_mmax (pc := 14) hC kw369 kw370 kw12 kw371 (by decide) (Nat.le_of_ble_eq_true rfl) dX4_copy_14 ?_
  refine aw_putIN (pc := 17) hC inX4 (vL (j := 7) hh (by decide)) rfl rfl 2 (by decide) kw103 rfl tyX4 tyX4_ok nmX4 rfl rfl (Nat.le_of_ble_eq_true rfl) rfl dX4_copy_17 (fun μ1 => ?_)
  refine aw_aload_n (pc := 20) (i := 1) hC dX4_copy_20 rfl rfl ?_
  refine aw_get (pc := 21) hC inX4 (vL (j := 7) hh1 (by decide)) rfl rfl 0 (by decide) kw101 rfl rfl dX4_copy_21 ?_
  refine aw_iconst (pc := 24) (v := 0) hC dX4_copy_24 ic0 ?_
  refine aw_aload_n (pc := 25) (i := 0) hC dX4_copy_25 rfl rfl ?_
  refine aw_get (pc := 26) hC inX4 (vL (j := 7) hh (by decide)) rfl rfl 0 (by decide) kw101 rfl rfl dX4_copy_26 ?_
  refine aw_iconst (pc := 29) (v := 0) hC dX4_copy_29 ic0 ?_
  refine aw_aload_n (pc := 30) (i := 0) hC dX4_copy_30 rfl rfl ?_
  refine aw_get (pc := 31) hC inX4 (vL (j := 7) hh (by decide)) rfl rfl 2 (by decide) kw103 rfl rfl dX4_copy_31 ?_
  refine aw_copyN (pc := 34) hC kw372 kw356 kw355 kw17 (vL (j := 8) hh1 (by decide)) (vL (j := 8) hh (by decide)) rfl (fun _ => rfl) (by decide) (Nat.le_of_ble_eq_true rfl) dX4_copy_34 (fun μ2 => ?_)
  refine aw_aload_n (pc := 37) (i := 0) hC dX4_copy_37 rfl rfl ?_
  refine aw_aload_n (pc := 38) (i := 1) hC dX4_copy_38 rfl rfl ?_
  refine aw_get (pc := 39) hC inX4 (vL (j := 7) hh1 (by decide)) rfl rfl 4 (by decide) kw106 rfl rfl dX4_copy_39 ?_
  refine aw_putIN (pc := 42) hC inX4 (vL (j := 7) hh (by decide)) rfl rfl 4 (by decide) kw106 rfl tyX4 tyX4_ok nmX4 rfl rfl (Nat.le_of_ble_eq_true rfl) rfl dX4_copy_42 (fun μ3 => ?_)
  exact aw_vret hC dX4_copy_45
theorem dX4_put_0 : decode cX4_put 0 = .ok (.aload_n 0, 1) := by decide +kernel
theorem dX4_put_1 : decode cX4_put 1 = .ok (.getfield 22, 3) := by decide +kernel
theorem dX4_put_4 : decode cX4_put 4 = .ok (.aload_n 0, 1) := by decide +kernel
theorem dX4_put_5 : decode cX4_put 5 = .ok (.getfield 9, 3) := by decide +kernel
theorem dX4_put_8 : decode cX4_put 8 = .ok (.arraylength, 1) := by decide +kernel
theorem dX4_put_9 : decode cX4_put 9 = .ok (.if_icmp .ge 23, 3) := by decide +kernel
theorem dX4_put_12 : decode cX4_put 12 = .ok (.aload_n 0, 1) := by decide +kernel
theorem dX4_put_13 : decode cX4_put 13 = .ok (.getfield 9, 3) := by decide +kernel
theorem dX4_put_16 : decode cX4_put 16 = .ok (.aload_n 0, 1) := by decide +kernel
theorem dX4_put_17 : decode cX4_put 17 = .ok (.getfield 22, 3) := by decide +kernel
theorem dX4_put_20 : decode cX4_put 20 = .ok (.iload_n 1, 1) := by decide +kernel
theorem dX4_put_21 : decode cX4_put 21 = .ok (.iastore, 1) := by decide +kernel
theorem dX4_put_22 : decode cX4_put 22 = .ok (.aload_n 0, 1) := by decide +kernel
theorem dX4_put_23 : decode cX4_put 23 = .ok (.dup, 1) := by decide +kernel
theorem dX4_put_24 : decode cX4_put 24 = .ok (.getfield 22, 3) := by decide +kernel
theorem dX4_put_27 : decode cX4_put 27 = .ok (.iconst 1, 1) := by decide +kernel
theorem dX4_put_28 : decode cX4_put 28 = .ok (.iadd, 1) := by decide +kernel
theorem dX4_put_29 : decode cX4_put 29 = .ok (.putfield 22, 3) := by decide +kernel
theorem dX4_put_32 : decode cX4_put 32 = .ok (.return_, 1) := by decide +kernel
def f_X4_put (h : Nat) (μ : Mem) (a1 : Int32) : Option (Mem) := if 400 ≤ (μ (h + 1) 7 2) then (some μ) else (ix (μ (h + 1) 7 2) 400 (nm (upm μ (h + 1) 8 (μ (h + 1) 7 2).toNatClampNeg a1) fun (μ1 : Mem) => nm (upm μ1 (h + 1) 7 2 ((μ1 (h + 1) 7 2) + 1)) fun (μ2 : Mem) => some μ2))
set_option maxHeartbeats 4000000 in
set_option maxRecDepth 100000 in
theorem c_X4_put (G : GG) (l : Launch) (h : Nat) (hh : h < 16) (μ : Mem) (a1 : Int32) : CV G l yX4_put (.code yX4_put cX4_put 2 none) 1 [.ref (gad G (h + 1) 7), .int a1] μ (f_X4_put h μ a1) := by
  refine CV.of (own := "SaturdayKeep$Law") (L0 := [some (.ref (gad G (h + 1) 7)), some (.int a1)]) rfl rfl rfl (Nat.le_of_ble_eq_true rfl) (fun C hl hC => ?_)
  subst hl
  delta f_X4_put
  refine aw_aload_n (pc := 0) (i := 0) hC dX4_put_0 rfl rfl ?_
  refine aw_get (pc := 1) hC inX4 (vL (j := 7) hh (by decide)) rfl rfl 2 (by decide) kw103 rfl rfl dX4_put_1 ?_
  refine aw_aload_n (pc := 4) (i := 0) hC dX4_put_4 rfl rfl ?_
  refine aw_get (pc := 5) hC inX4 (vL (j := 7) hh (by decide)) rfl rfl 0 (by decide) kw101 rfl rfl dX4_put_5 ?_
  refine aw_alen (pc := 8) (v := 400) hC (vL (j := 8) hh (by decide)) rfl (by decide) dX4_put_8 ?_
  refine aw_icmp_ge (pc := 9) (tgt := 32) hC dX4_put_9 (by decide) (fun _ => ?_) (fun _ => ?_)
  · skip
    exact aw_vret hC dX4_put_32
  · skip
    refine aw_aload_n (pc := 12) (i := 0) hC dX4_put_12 rfl rfl ?_
    refine aw_get (pc := 13) hC inX4 (vL (j := 7) hh (by decide)) rfl rfl 0 (by decide) kw101 rfl rfl dX4_put_13 ?_
    refine aw_aload_n (pc := 16) (i := 0) hC dX4_put_16 rfl rfl ?_
    refine aw_get (pc := 17) hC inX4 (vL (j := 7) hh (by decide)) rfl rfl 2 (by decide) kw103 rfl rfl dX4_put_17 ?_
    refine aw_iload_n (pc := 20) (i := 1) hC dX4_put_20 rfl rfl ?_
    refine aw_iastoreN (pc := 21) hC (vL (j := 8) hh (by decide)) (fun _ => rfl) dX4_put_21 (fun μ1 => ?_)
    refine aw_aload_n (pc := 22) (i := 0) hC dX4_put_22 rfl rfl ?_
    refine aw_dup (pc := 23) hC dX4_put_23 rfl ?_
    refine aw_get (pc := 24) hC inX4 (vL (j := 7) hh (by decide)) rfl rfl 2 (by decide) kw103 rfl rfl dX4_put_24 ?_
    refine aw_iconst (pc := 27) (v := 1) hC dX4_put_27 ic1 ?_
    refine aw_iadd (pc := 28) hC dX4_put_28 ?_
    refine aw_putIN (pc := 29) hC inX4 (vL (j := 7) hh (by decide)) rfl rfl 2 (by decide) kw103 rfl tyX4 tyX4_ok nmX4 rfl rfl (Nat.le_of_ble_eq_true rfl) rfl dX4_put_29 (fun μ2 => ?_)
    exact aw_vret hC dX4_put_32
theorem dX4_pop_0 : decode cX4_pop 0 = .ok (.aload_n 0, 1) := by decide +kernel
theorem dX4_pop_1 : decode cX4_pop 1 = .ok (.getfield 40, 3) := by decide +kernel
theorem dX4_pop_4 : decode cX4_pop 4 = .ok (.ifCond .le 15, 3) := by decide +kernel
theorem dX4_pop_7 : decode cX4_pop 7 = .ok (.aload_n 0, 1) := by decide +kernel
theorem dX4_pop_8 : decode cX4_pop 8 = .ok (.getfield 40, 3) := by decide +kernel
theorem dX4_pop_11 : decode cX4_pop 11 = .ok (.aload_n 0, 1) := by decide +kernel
theorem dX4_pop_12 : decode cX4_pop 12 = .ok (.getfield 15, 3) := by decide +kernel
theorem dX4_pop_15 : decode cX4_pop 15 = .ok (.arraylength, 1) := by decide +kernel
theorem dX4_pop_16 : decode cX4_pop 16 = .ok (.if_icmp .le 5, 3) := by decide +kernel
theorem dX4_pop_19 : decode cX4_pop 19 = .ok (.iconst 0, 1) := by decide +kernel
theorem dX4_pop_20 : decode cX4_pop 20 = .ok (.ireturn, 1) := by decide +kernel
theorem dX4_pop_21 : decode cX4_pop 21 = .ok (.aload_n 0, 1) := by decide +kernel
theorem dX4_pop_22 : decode cX4_pop 22 = .ok (.dup, 1) := by decide +kernel
theorem dX4_pop_23 : decode cX4_pop 23 = .ok (.getfield 40, 3) := by decide +kernel
theorem dX4_pop_26 : decode cX4_pop 26 = .ok (.iconst 1, 1) := by decide +kernel
theorem dX4_pop_27 : decode cX4_pop 27 = .ok (.isub, 1) := by decide +kernel
theorem dX4_pop_28 : decode cX4_pop 28 = .ok (.putfield 40, 3) := by decide +kernel
theorem dX4_pop_31 : decode cX4_pop 31 = .ok (.aload_n 0, 1) := by decide +kernel
theorem dX4_pop_32 : decode cX4_pop 32 = .ok (.getfield 15, 3) := by decide +kernel
theorem dX4_pop_35 : decode cX4_pop 35 = .ok (.aload_n 0, 1) := by decide +kernel
theorem dX4_pop_36 : decode cX4_pop 36 = .ok (.getfield 40, 3) := by decide +kernel
theorem dX4_pop_39 : decode cX4_pop 39 = .ok (.iaload, 1) := by decide +kernel
theorem dX4_pop_40 : decode cX4_pop 40 = .ok (.ireturn, 1) := by decide +kernel
def f_X4_pop (h : Nat) (μ : Mem) : Option (Int32 × Mem) := if (μ (h + 1) 7 3) ≤ 0 then (some (0, μ)) else (if (μ (h + 1) 7 3) ≤ 32 then (nm (upm μ (h + 1) 7 3 ((μ (h + 1) 7 3) - 1)) fun (μ1 : Mem) => ix (μ1 (h + 1) 7 3) 32 (some ((μ1 (h + 1) 9 (μ1 (h + 1) 7 3).toNatClampNeg), μ1))) else (some (0, μ)))
set_option maxHeartbeats 4000000 in
set_option maxRecDepth 100000 in
theorem c_X4_pop (G : GG) (l : Launch) (h : Nat) (hh : h < 16) (μ : Mem) : CI G l yX4_pop (.code yX4_pop cX4_pop 1 (some .int)) 1 [.ref (gad G (h + 1) 7)] μ (f_X4_pop h μ) := by
  refine CI.of (own := "SaturdayKeep$Law") (L0 := [some (.ref (gad G (h + 1) 7))]) rfl rfl rfl (Nat.le_of_ble_eq_true rfl) (fun C hl hC => ?_)
  subst hl
  delta f_X4_pop
  refine aw_aload_n (pc := 0) (i := 0) hC dX4_pop_0 rfl rfl ?_
  refine aw_get (pc := 1) hC inX4 (vL (j := 7) hh (by decide)) rfl rfl 3 (by decide) kw105 rfl rfl dX4_pop_1 ?_
  refine aw_if_le (pc := 4) (tgt := 19) hC dX4_pop_4 (by decide) (fun _ => ?_) (fun _ => ?_)
  · skip
    refine aw_iconst (pc := 19) (v := 0) hC dX4_pop_19 ic0 ?_
    exact aw_iret hC dX4_pop_20
  · skip
    refine aw_aload_n (pc := 7) (i := 0) hC dX4_pop_7 rfl rfl ?_
    refine aw_get (pc := 8) hC inX4 (vL (j := 7) hh (by decide)) rfl rfl 3 (by decide) kw105 rfl rfl dX4_pop_8 ?_
    refine aw_aload_n (pc := 11) (i := 0) hC dX4_pop_11 rfl rfl ?_
    refine aw_get (pc := 12) hC inX4 (vL (j := 7) hh (by decide)) rfl rfl 1 (by decide) kw102 rfl rfl dX4_pop_12 ?_
    refine aw_alen (pc := 15) (v := 32) hC (vL (j := 9) hh (by decide)) rfl (by decide) dX4_pop_15 ?_
    refine aw_icmp_le (pc := 16) (tgt := 21) hC dX4_pop_16 (by decide) (fun _ => ?_) (fun _ => ?_)
    · skip
      refine aw_aload_n (pc := 21) (i := 0) hC dX4_pop_21 rfl rfl ?_
      refine aw_dup (pc := 22) hC dX4_pop_22 rfl ?_
      refine aw_get (pc := 23) hC inX4 (vL (j := 7) hh (by decide)) rfl rfl 3 (by decide) kw105 rfl rfl dX4_pop_23 ?_
      refine aw_iconst (pc := 26) (v := 1) hC dX4_pop_26 ic1 ?_
      refine aw_isub (pc := 27) hC dX4_pop_27 ?_
      refine aw_putIN (pc := 28) hC inX4 (vL (j := 7) hh (by decide)) rfl rfl 3 (by decide) kw105 rfl tyX4 tyX4_ok nmX4 rfl rfl (Nat.le_of_ble_eq_true rfl) rfl dX4_pop_28 (fun μ1 => ?_)
      refine aw_aload_n (pc := 31) (i := 0) hC dX4_pop_31 rfl rfl ?_
      refine aw_get (pc := 32) hC inX4 (vL (j := 7) hh (by decide)) rfl rfl 1 (by decide) kw102 rfl rfl dX4_pop_32 ?_
      refine aw_aload_n (pc := 35) (i := 0) hC dX4_pop_35 rfl rfl ?_
      refine aw_get (pc := 36) hC inX4 (vL (j := 7) hh (by decide)) rfl rfl 3 (by decide) kw105 rfl rfl dX4_pop_36 ?_
      refine aw_iaload (pc := 39) hC (vL (j := 9) hh (by decide)) rfl dX4_pop_39 ?_
      exact aw_iret hC dX4_pop_40
    · skip
      refine aw_iconst (pc := 19) (v := 0) hC dX4_pop_19 ic0 ?_
      exact aw_iret hC dX4_pop_20
theorem dX4_push_0 : decode cX4_push 0 = .ok (.aload_n 0, 1) := by decide +kernel
theorem dX4_push_1 : decode cX4_push 1 = .ok (.getfield 40, 3) := by decide +kernel
theorem dX4_push_4 : decode cX4_push 4 = .ok (.ifCond .lt 35, 3) := by decide +kernel
theorem dX4_push_7 : decode cX4_push 7 = .ok (.aload_n 0, 1) := by decide +kernel
theorem dX4_push_8 : decode cX4_push 8 = .ok (.getfield 40, 3) := by decide +kernel
theorem dX4_push_11 : decode cX4_push 11 = .ok (.aload_n 0, 1) := by decide +kernel
theorem dX4_push_12 : decode cX4_push 12 = .ok (.getfield 15, 3) := by decide +kernel
theorem dX4_push_15 : decode cX4_push 15 = .ok (.arraylength, 1) := by decide +kernel
theorem dX4_push_16 : decode cX4_push 16 = .ok (.if_icmp .ge 23, 3) := by decide +kernel
theorem dX4_push_19 : decode cX4_push 19 = .ok (.aload_n 0, 1) := by decide +kernel
theorem dX4_push_20 : decode cX4_push 20 = .ok (.getfield 15, 3) := by decide +kernel
theorem dX4_push_23 : decode cX4_push 23 = .ok (.aload_n 0, 1) := by decide +kernel
theorem dX4_push_24 : decode cX4_push 24 = .ok (.getfield 40, 3) := by decide +kernel
theorem dX4_push_27 : decode cX4_push 27 = .ok (.iload_n 1, 1) := by decide +kernel
theorem dX4_push_28 : decode cX4_push 28 = .ok (.iastore, 1) := by decide +kernel
theorem dX4_push_29 : decode cX4_push 29 = .ok (.aload_n 0, 1) := by decide +kernel
theorem dX4_push_30 : decode cX4_push 30 = .ok (.dup, 1) := by decide +kernel
theorem dX4_push_31 : decode cX4_push 31 = .ok (.getfield 40, 3) := by decide +kernel
theorem dX4_push_34 : decode cX4_push 34 = .ok (.iconst 1, 1) := by decide +kernel
theorem dX4_push_35 : decode cX4_push 35 = .ok (.iadd, 1) := by decide +kernel
theorem dX4_push_36 : decode cX4_push 36 = .ok (.putfield 40, 3) := by decide +kernel
theorem dX4_push_39 : decode cX4_push 39 = .ok (.return_, 1) := by decide +kernel
def f_X4_push (h : Nat) (μ : Mem) (a1 : Int32) : Option (Mem) := if (μ (h + 1) 7 3) < 0 then (some μ) else (if 32 ≤ (μ (h + 1) 7 3) then (some μ) else (ix (μ (h + 1) 7 3) 32 (nm (upm μ (h + 1) 9 (μ (h + 1) 7 3).toNatClampNeg a1) fun (μ1 : Mem) => nm (upm μ1 (h + 1) 7 3 ((μ1 (h + 1) 7 3) + 1)) fun (μ2 : Mem) => some μ2)))
set_option maxHeartbeats 4000000 in
set_option maxRecDepth 100000 in
theorem c_X4_push (G : GG) (l : Launch) (h : Nat) (hh : h < 16) (μ : Mem) (a1 : Int32) : CV G l yX4_push (.code yX4_push cX4_push 2 none) 1 [.ref (gad G (h + 1) 7), .int a1] μ (f_X4_push h μ a1) := by
  refine CV.of (own := "SaturdayKeep$Law") (L0 := [some (.ref (gad G (h + 1) 7)), some (.int a1)]) rfl rfl rfl (Nat.le_of_ble_eq_true rfl) (fun C hl hC => ?_)
  subst hl
  delta f_X4_push
  refine aw_aload_n (pc := 0) (i := 0) hC dX4_push_0 rfl rfl ?_
  refine aw_get (pc := 1) hC inX4 (vL (j := 7) hh (by decide)) rfl rfl 3 (by decide) kw105 rfl rfl dX4_push_1 ?_
  refine aw_if_lt (pc := 4) (tgt := 39) hC dX4_push_4 (by decide) (fun _ => ?_) (fun _ => ?_)
  · skip
    exact aw_vret hC dX4_push_39
  · skip
    refine aw_aload_n (pc := 7) (i := 0) hC dX4_push_7 rfl rfl ?_
    refine aw_get (pc := 8) hC inX4 (vL (j := 7) hh (by decide)) rfl rfl 3 (by decide) kw105 rfl rfl dX4_push_8 ?_
    refine aw_aload_n (pc := 11) (i := 0) hC dX4_push_11 rfl rfl ?_
    refine aw_get (pc := 12) hC inX4 (vL (j := 7) hh (by decide)) rfl rfl 1 (by decide) kw102 rfl rfl dX4_push_12 ?_
    refine aw_alen (pc := 15) (v := 32) hC (vL (j := 9) hh (by decide)) rfl (by decide) dX4_push_15 ?_
    refine aw_icmp_ge (pc := 16) (tgt := 39) hC dX4_push_16 (by decide) (fun _ => ?_) (fun _ => ?_)
    · skip
      exact aw_vret hC dX4_push_39
    · skip
      refine aw_aload_n (pc := 19) (i := 0) hC dX4_push_19 rfl rfl ?_
      refine aw_get (pc := 20) hC inX4 (vL (j := 7) hh (by decide)) rfl rfl 1 (by decide) kw102 rfl rfl dX4_push_20 ?_
      refine aw_aload_n (pc := 23) (i := 0) hC dX4_push_23 rfl rfl ?_
      refine aw_get (pc := 24) hC inX4 (vL (j := 7) hh (by decide)) rfl rfl 3 (by decide) kw105 rfl rfl dX4_push_24 ?_
      refine aw_iload_n (pc := 27) (i := 1) hC dX4_push_27 rfl rfl ?_
      refine aw_iastoreN (pc := 28) hC (vL (j := 9) hh (by decide)) (fun _ => rfl) dX4_push_28 (fun μ1 => ?_)
      refine aw_aload_n (pc := 29) (i := 0) hC dX4_push_29 rfl rfl ?_
      refine aw_dup (pc := 30) hC dX4_push_30 rfl ?_
      refine aw_get (pc := 31) hC inX4 (vL (j := 7) hh (by decide)) rfl rfl 3 (by decide) kw105 rfl rfl dX4_push_31 ?_
      refine aw_iconst (pc := 34) (v := 1) hC dX4_push_34 ic1 ?_
      refine aw_iadd (pc := 35) hC dX4_push_35 ?_
      refine aw_putIN (pc := 36) hC inX4 (vL (j := 7) hh (by decide)) rfl rfl 3 (by decide) kw105 rfl tyX4 tyX4_ok nmX4 rfl rfl (Nat.le_of_ble_eq_true rfl) rfl dX4_push_36 (fun μ2 => ?_)
      exact aw_vret hC dX4_push_39
theorem dX4_joined_0 : decode cX4_joined 0 = .ok (.iload_n 0, 1) := by decide +kernel
theorem dX4_joined_1 : decode cX4_joined 1 = .ok (.tableswitch 71 1010 1013 #[31, 35, 46, 57], 31) := by decide +kernel
theorem dX4_joined_32 : decode cX4_joined 32 = .ok (.iload_n 1, 1) := by decide +kernel
theorem dX4_joined_33 : decode cX4_joined 33 = .ok (.iload_n 2, 1) := by decide +kernel
theorem dX4_joined_34 : decode cX4_joined 34 = .ok (.iadd, 1) := by decide +kernel
theorem dX4_joined_35 : decode cX4_joined 35 = .ok (.ireturn, 1) := by decide +kernel
theorem dX4_joined_36 : decode cX4_joined 36 = .ok (.iload_n 1, 1) := by decide +kernel
theorem dX4_joined_37 : decode cX4_joined 37 = .ok (.iload_n 2, 1) := by decide +kernel
theorem dX4_joined_38 : decode cX4_joined 38 = .ok (.if_icmp .ge 7, 3) := by decide +kernel
theorem dX4_joined_41 : decode cX4_joined 41 = .ok (.iconst 1, 1) := by decide +kernel
theorem dX4_joined_42 : decode cX4_joined 42 = .ok (.goto 4, 3) := by decide +kernel
theorem dX4_joined_45 : decode cX4_joined 45 = .ok (.iconst 0, 1) := by decide +kernel
theorem dX4_joined_46 : decode cX4_joined 46 = .ok (.ireturn, 1) := by decide +kernel
theorem dX4_joined_47 : decode cX4_joined 47 = .ok (.iload_n 1, 1) := by decide +kernel
theorem dX4_joined_48 : decode cX4_joined 48 = .ok (.iload_n 2, 1) := by decide +kernel
theorem dX4_joined_49 : decode cX4_joined 49 = .ok (.if_icmp .le 7, 3) := by decide +kernel
theorem dX4_joined_52 : decode cX4_joined 52 = .ok (.iconst 1, 1) := by decide +kernel
theorem dX4_joined_53 : decode cX4_joined 53 = .ok (.goto 4, 3) := by decide +kernel
theorem dX4_joined_56 : decode cX4_joined 56 = .ok (.iconst 0, 1) := by decide +kernel
theorem dX4_joined_57 : decode cX4_joined 57 = .ok (.ireturn, 1) := by decide +kernel
theorem dX4_joined_58 : decode cX4_joined 58 = .ok (.iload_n 1, 1) := by decide +kernel
theorem dX4_joined_59 : decode cX4_joined 59 = .ok (.ifCond .eq 11, 3) := by decide +kernel
theorem dX4_joined_62 : decode cX4_joined 62 = .ok (.iload_n 2, 1) := by decide +kernel
theorem dX4_joined_63 : decode cX4_joined 63 = .ok (.ifCond .eq 7, 3) := by decide +kernel
theorem dX4_joined_66 : decode cX4_joined 66 = .ok (.iconst 1, 1) := by decide +kernel
theorem dX4_joined_67 : decode cX4_joined 67 = .ok (.goto 4, 3) := by decide +kernel
theorem dX4_joined_70 : decode cX4_joined 70 = .ok (.iconst 0, 1) := by decide +kernel
theorem dX4_joined_71 : decode cX4_joined 71 = .ok (.ireturn, 1) := by decide +kernel
theorem dX4_joined_72 : decode cX4_joined 72 = .ok (.iload_n 1, 1) := by decide +kernel
theorem dX4_joined_73 : decode cX4_joined 73 = .ok (.ifCond .ne 7, 3) := by decide +kernel
theorem dX4_joined_76 : decode cX4_joined 76 = .ok (.iload_n 2, 1) := by decide +kernel
theorem dX4_joined_77 : decode cX4_joined 77 = .ok (.ifCond .eq 7, 3) := by decide +kernel
theorem dX4_joined_80 : decode cX4_joined 80 = .ok (.iconst 1, 1) := by decide +kernel
theorem dX4_joined_81 : decode cX4_joined 81 = .ok (.goto 4, 3) := by decide +kernel
theorem dX4_joined_84 : decode cX4_joined 84 = .ok (.iconst 0, 1) := by decide +kernel
theorem dX4_joined_85 : decode cX4_joined 85 = .ok (.ireturn, 1) := by decide +kernel
def f_X4_joined (a1 : Int32) (a2 : Int32) (a3 : Int32) : Option (Int32) := if a1 = 1010 then (some (a2 + a3)) else (if a1 = 1011 then (if a3 ≤ a2 then (some 0) else (some 1)) else (if a1 = 1012 then (if a2 ≤ a3 then (some 0) else (some 1)) else (if a1 = 1013 then (if a2 = 0 then (some 0) else (if a3 = 0 then (some 0) else (some 1))) else (if a2 = 0 then (if a3 = 0 then (some 0) else (some 1)) else (some 1)))))
set_option maxHeartbeats 4000000 in
set_option maxRecDepth 100000 in
theorem c_X4_joined (G : GG) (l : Launch) (μ : Mem) (a1 : Int32) (a2 : Int32) (a3 : Int32) : CR G l yX4_joined (.code yX4_joined cX4_joined 3 (some .int)) 1 [.int a1, .int a2, .int a3] μ (f_X4_joined a1 a2 a3) := by
  refine CR.of (own := "SaturdayKeep$Law") (L0 := [some (.int a1), some (.int a2), some (.int a3)]) rfl rfl rfl (Nat.le_of_ble_eq_true rfl) (fun C hl hC => ?_)
  subst hl
  delta f_X4_joined
  refine aw_iload_n (pc := 0) (i := 0) hC dX4_joined_0 rfl rfl ?_
  refine aw_case (k := 1010) (fun hc1 => ?_) (fun hn1_0 => ?_)
  · skip
    refine aw_tswIn (pc := 1) (kI := 1010) (tgt := 32) hC dX4_joined_1 hc1 (by decide) (by decide) (by decide) rfl (by decide) ?_
    refine aw_iload_n (pc := 32) (i := 1) hC dX4_joined_32 rfl rfl ?_
    refine aw_iload_n (pc := 33) (i := 2) hC dX4_joined_33 rfl rfl ?_
    refine aw_iadd (pc := 34) hC dX4_joined_34 ?_
    exact aw_iretR hC dX4_joined_35
  refine aw_case (k := 1011) (fun hc1 => ?_) (fun hn1_1 => ?_)
  · skip
    refine aw_tswIn (pc := 1) (kI := 1011) (tgt := 36) hC dX4_joined_1 hc1 (by decide) (by decide) (by decide) rfl (by decide) ?_
    refine aw_iload_n (pc := 36) (i := 1) hC dX4_joined_36 rfl rfl ?_
    refine aw_iload_n (pc := 37) (i := 2) hC dX4_joined_37 rfl rfl ?_
    refine aw_icmp_ge (pc := 38) (tgt := 45) hC dX4_joined_38 (by decide) (fun _ => ?_) (fun _ => ?_)
    · skip
      refine aw_iconst (pc := 45) (v := 0) hC dX4_joined_45 ic0 ?_
      exact aw_iretR hC dX4_joined_46
    · skip
      refine aw_iconst (pc := 41) (v := 1) hC dX4_joined_41 ic1 ?_
      refine aw_goto (pc := 42) (tgt := 46) hC dX4_joined_42 (by decide) ?_
      exact aw_iretR hC dX4_joined_46
  refine aw_case (k := 1012) (fun hc1 => ?_) (fun hn1_2 => ?_)
  · skip
    refine aw_tswIn (pc := 1) (kI := 1012) (tgt := 47) hC dX4_joined_1 hc1 (by decide) (by decide) (by decide) rfl (by decide) ?_
    refine aw_iload_n (pc := 47) (i := 1) hC dX4_joined_47 rfl rfl ?_
    refine aw_iload_n (pc := 48) (i := 2) hC dX4_joined_48 rfl rfl ?_
    refine aw_icmp_le (pc := 49) (tgt := 56) hC dX4_joined_49 (by decide) (fun _ => ?_) (fun _ => ?_)
    · skip
      refine aw_iconst (pc := 56) (v := 0) hC dX4_joined_56 ic0 ?_
      exact aw_iretR hC dX4_joined_57
    · skip
      refine aw_iconst (pc := 52) (v := 1) hC dX4_joined_52 ic1 ?_
      refine aw_goto (pc := 53) (tgt := 57) hC dX4_joined_53 (by decide) ?_
      exact aw_iretR hC dX4_joined_57
  refine aw_case (k := 1013) (fun hc1 => ?_) (fun hn1_3 => ?_)
  · skip
    refine aw_tswIn (pc := 1) (kI := 1013) (tgt := 58) hC dX4_joined_1 hc1 (by decide) (by decide) (by decide) rfl (by decide) ?_
    refine aw_iload_n (pc := 58) (i := 1) hC dX4_joined_58 rfl rfl ?_
    refine aw_if_eq (pc := 59) (tgt := 70) hC dX4_joined_59 (by decide) (fun _ => ?_) (fun _ => ?_)
    · skip
      refine aw_iconst (pc := 70) (v := 0) hC dX4_joined_70 ic0 ?_
      exact aw_iretR hC dX4_joined_71
    · skip
      refine aw_iload_n (pc := 62) (i := 2) hC dX4_joined_62 rfl rfl ?_
      refine aw_if_eq (pc := 63) (tgt := 70) hC dX4_joined_63 (by decide) (fun _ => ?_) (fun _ => ?_)
      · skip
        refine aw_iconst (pc := 70) (v := 0) hC dX4_joined_70 ic0 ?_
        exact aw_iretR hC dX4_joined_71
      · skip
        refine aw_iconst (pc := 66) (v := 1) hC dX4_joined_66 ic1 ?_
        refine aw_goto (pc := 67) (tgt := 71) hC dX4_joined_67 (by decide) ?_
        exact aw_iretR hC dX4_joined_71
  refine aw_tswOut (pc := 1) (tgt := 72) hC dX4_joined_1 (by have e1010 := lv_neT (a := 1010) hn1_0 (by decide); have e1011 := lv_neT (a := 1011) hn1_1 (by decide); have e1012 := lv_neT (a := 1012) hn1_2 (by decide); have e1013 := lv_neT (a := 1013) hn1_3 (by decide); omega) (by decide) ?_
  refine aw_iload_n (pc := 72) (i := 1) hC dX4_joined_72 rfl rfl ?_
  refine aw_if_ne (pc := 73) (tgt := 80) hC dX4_joined_73 (by decide) (fun _ => ?_) (fun _ => ?_)
  · skip
    refine aw_iload_n (pc := 76) (i := 2) hC dX4_joined_76 rfl rfl ?_
    refine aw_if_eq (pc := 77) (tgt := 84) hC dX4_joined_77 (by decide) (fun _ => ?_) (fun _ => ?_)
    · skip
      refine aw_iconst (pc := 84) (v := 0) hC dX4_joined_84 ic0 ?_
      exact aw_iretR hC dX4_joined_85
    · skip
      refine aw_iconst (pc := 80) (v := 1) hC dX4_joined_80 ic1 ?_
      refine aw_goto (pc := 81) (tgt := 85) hC dX4_joined_81 (by decide) ?_
      exact aw_iretR hC dX4_joined_85
  · skip
    refine aw_iconst (pc := 80) (v := 1) hC dX4_joined_80 ic1 ?_
    refine aw_goto (pc := 81) (tgt := 85) hC dX4_joined_81 (by decide) ?_
    exact aw_iretR hC dX4_joined_85
theorem dX4_turnsBy_0 : decode cX4_turnsBy 0 = .ok (.aload_n 0, 1) := by decide +kernel
theorem dX4_turnsBy_1 : decode cX4_turnsBy 1 = .ok (.getfield 18, 3) := by decide +kernel
theorem dX4_turnsBy_4 : decode cX4_turnsBy 4 = .ok (.iconst (-1), 1) := by decide +kernel
theorem dX4_turnsBy_5 : decode cX4_turnsBy 5 = .ok (.if_icmp .ne 5, 3) := by decide +kernel
theorem dX4_turnsBy_8 : decode cX4_turnsBy 8 = .ok (.iconst 1, 1) := by decide +kernel
theorem dX4_turnsBy_9 : decode cX4_turnsBy 9 = .ok (.ireturn, 1) := by decide +kernel
theorem dX4_turnsBy_10 : decode cX4_turnsBy 10 = .ok (.iconst 0, 1) := by decide +kernel
theorem dX4_turnsBy_11 : decode cX4_turnsBy 11 = .ok (.istore_n 2, 1) := by decide +kernel
theorem dX4_turnsBy_12 : decode cX4_turnsBy 12 = .ok (.aload_n 0, 1) := by decide +kernel
theorem dX4_turnsBy_13 : decode cX4_turnsBy 13 = .ok (.iconst 0, 1) := by decide +kernel
theorem dX4_turnsBy_14 : decode cX4_turnsBy 14 = .ok (.putfield 40, 3) := by decide +kernel
theorem dX4_turnsBy_17 : decode cX4_turnsBy 17 = .ok (.iconst 0, 1) := by decide +kernel
theorem dX4_turnsBy_18 : decode cX4_turnsBy 18 = .ok (.istore_n 3, 1) := by decide +kernel
theorem dX4_turnsBy_19 : decode cX4_turnsBy 19 = .ok (.iload_n 3, 1) := by decide +kernel
theorem dX4_turnsBy_20 : decode cX4_turnsBy 20 = .ok (.aload_n 0, 1) := by decide +kernel
theorem dX4_turnsBy_21 : decode cX4_turnsBy 21 = .ok (.getfield 22, 3) := by decide +kernel
theorem dX4_turnsBy_24 : decode cX4_turnsBy 24 = .ok (.if_icmp .ge 184, 3) := by decide +kernel
theorem dX4_turnsBy_27 : decode cX4_turnsBy 27 = .ok (.iload_n 3, 1) := by decide +kernel
theorem dX4_turnsBy_28 : decode cX4_turnsBy 28 = .ok (.aload_n 0, 1) := by decide +kernel
theorem dX4_turnsBy_29 : decode cX4_turnsBy 29 = .ok (.getfield 9, 3) := by decide +kernel
theorem dX4_turnsBy_32 : decode cX4_turnsBy 32 = .ok (.arraylength, 1) := by decide +kernel
theorem dX4_turnsBy_33 : decode cX4_turnsBy 33 = .ok (.if_icmp .ge 175, 3) := by decide +kernel
theorem dX4_turnsBy_36 : decode cX4_turnsBy 36 = .ok (.aload_n 0, 1) := by decide +kernel
theorem dX4_turnsBy_37 : decode cX4_turnsBy 37 = .ok (.getfield 9, 3) := by decide +kernel
theorem dX4_turnsBy_40 : decode cX4_turnsBy 40 = .ok (.iload_n 3, 1) := by decide +kernel
theorem dX4_turnsBy_41 : decode cX4_turnsBy 41 = .ok (.iaload, 1) := by decide +kernel
theorem dX4_turnsBy_42 : decode cX4_turnsBy 42 = .ok (.istore 4, 2) := by decide +kernel
theorem dX4_turnsBy_44 : decode cX4_turnsBy 44 = .ok (.iload 4, 2) := by decide +kernel
theorem dX4_turnsBy_46 : decode cX4_turnsBy 46 = .ok (.sipush 1200, 3) := by decide +kernel
theorem dX4_turnsBy_49 : decode cX4_turnsBy 49 = .ok (.if_icmp .lt 26, 3) := by decide +kernel
theorem dX4_turnsBy_52 : decode cX4_turnsBy 52 = .ok (.iload_n 2, 1) := by decide +kernel
theorem dX4_turnsBy_53 : decode cX4_turnsBy 53 = .ok (.aload_n 0, 1) := by decide +kernel
theorem dX4_turnsBy_54 : decode cX4_turnsBy 54 = .ok (.invokevirtual 43, 3) := by decide +kernel
theorem dX4_turnsBy_57 : decode cX4_turnsBy 57 = .ok (.ifCond .eq 12, 3) := by decide +kernel
theorem dX4_turnsBy_60 : decode cX4_turnsBy 60 = .ok (.iload 4, 2) := by decide +kernel
theorem dX4_turnsBy_62 : decode cX4_turnsBy 62 = .ok (.sipush 1200, 3) := by decide +kernel
theorem dX4_turnsBy_65 : decode cX4_turnsBy 65 = .ok (.isub, 1) := by decide +kernel
theorem dX4_turnsBy_66 : decode cX4_turnsBy 66 = .ok (.goto 4, 3) := by decide +kernel
theorem dX4_turnsBy_69 : decode cX4_turnsBy 69 = .ok (.iconst 0, 1) := by decide +kernel
theorem dX4_turnsBy_70 : decode cX4_turnsBy 70 = .ok (.isub, 1) := by decide +kernel
theorem dX4_turnsBy_71 : decode cX4_turnsBy 71 = .ok (.istore_n 2, 1) := by decide +kernel
theorem dX4_turnsBy_72 : decode cX4_turnsBy 72 = .ok (.goto 130, 3) := by decide +kernel
theorem dX4_turnsBy_75 : decode cX4_turnsBy 75 = .ok (.iload 4, 2) := by decide +kernel
theorem dX4_turnsBy_77 : decode cX4_turnsBy 77 = .ok (.sipush 1100, 3) := by decide +kernel
theorem dX4_turnsBy_80 : decode cX4_turnsBy 80 = .ok (.if_icmp .lt 26, 3) := by decide +kernel
theorem dX4_turnsBy_83 : decode cX4_turnsBy 83 = .ok (.iload_n 2, 1) := by decide +kernel
theorem dX4_turnsBy_84 : decode cX4_turnsBy 84 = .ok (.aload_n 0, 1) := by decide +kernel
theorem dX4_turnsBy_85 : decode cX4_turnsBy 85 = .ok (.invokevirtual 43, 3) := by decide +kernel
theorem dX4_turnsBy_88 : decode cX4_turnsBy 88 = .ok (.ifCond .eq 12, 3) := by decide +kernel
theorem dX4_turnsBy_91 : decode cX4_turnsBy 91 = .ok (.iload 4, 2) := by decide +kernel
theorem dX4_turnsBy_93 : decode cX4_turnsBy 93 = .ok (.sipush 1100, 3) := by decide +kernel
theorem dX4_turnsBy_96 : decode cX4_turnsBy 96 = .ok (.isub, 1) := by decide +kernel
theorem dX4_turnsBy_97 : decode cX4_turnsBy 97 = .ok (.goto 4, 3) := by decide +kernel
theorem dX4_turnsBy_100 : decode cX4_turnsBy 100 = .ok (.iconst 0, 1) := by decide +kernel
theorem dX4_turnsBy_101 : decode cX4_turnsBy 101 = .ok (.iadd, 1) := by decide +kernel
theorem dX4_turnsBy_102 : decode cX4_turnsBy 102 = .ok (.istore_n 2, 1) := by decide +kernel
theorem dX4_turnsBy_103 : decode cX4_turnsBy 103 = .ok (.goto 99, 3) := by decide +kernel
theorem dX4_turnsBy_106 : decode cX4_turnsBy 106 = .ok (.iload 4, 2) := by decide +kernel
theorem dX4_turnsBy_108 : decode cX4_turnsBy 108 = .ok (.sipush 1015, 3) := by decide +kernel
theorem dX4_turnsBy_111 : decode cX4_turnsBy 111 = .ok (.if_icmp .ne 22, 3) := by decide +kernel
theorem dX4_turnsBy_114 : decode cX4_turnsBy 114 = .ok (.aload_n 0, 1) := by decide +kernel
theorem dX4_turnsBy_115 : decode cX4_turnsBy 115 = .ok (.aload_n 0, 1) := by decide +kernel
theorem dX4_turnsBy_116 : decode cX4_turnsBy 116 = .ok (.invokevirtual 43, 3) := by decide +kernel
theorem dX4_turnsBy_119 : decode cX4_turnsBy 119 = .ok (.ifCond .eq 7, 3) := by decide +kernel
theorem dX4_turnsBy_122 : decode cX4_turnsBy 122 = .ok (.iconst 0, 1) := by decide +kernel
theorem dX4_turnsBy_123 : decode cX4_turnsBy 123 = .ok (.goto 4, 3) := by decide +kernel
theorem dX4_turnsBy_126 : decode cX4_turnsBy 126 = .ok (.iconst 1, 1) := by decide +kernel
theorem dX4_turnsBy_127 : decode cX4_turnsBy 127 = .ok (.invokevirtual 47, 3) := by decide +kernel
theorem dX4_turnsBy_130 : decode cX4_turnsBy 130 = .ok (.goto 72, 3) := by decide +kernel
theorem dX4_turnsBy_133 : decode cX4_turnsBy 133 = .ok (.iload 4, 2) := by decide +kernel
theorem dX4_turnsBy_135 : decode cX4_turnsBy 135 = .ok (.sipush 1010, 3) := by decide +kernel
theorem dX4_turnsBy_138 : decode cX4_turnsBy 138 = .ok (.if_icmp .lt 27, 3) := by decide +kernel
theorem dX4_turnsBy_141 : decode cX4_turnsBy 141 = .ok (.aload_n 0, 1) := by decide +kernel
theorem dX4_turnsBy_142 : decode cX4_turnsBy 142 = .ok (.invokevirtual 43, 3) := by decide +kernel
theorem dX4_turnsBy_145 : decode cX4_turnsBy 145 = .ok (.istore 5, 2) := by decide +kernel
theorem dX4_turnsBy_147 : decode cX4_turnsBy 147 = .ok (.aload_n 0, 1) := by decide +kernel
theorem dX4_turnsBy_148 : decode cX4_turnsBy 148 = .ok (.iload 4, 2) := by decide +kernel
theorem dX4_turnsBy_150 : decode cX4_turnsBy 150 = .ok (.aload_n 0, 1) := by decide +kernel
theorem dX4_turnsBy_151 : decode cX4_turnsBy 151 = .ok (.invokevirtual 43, 3) := by decide +kernel
theorem dX4_turnsBy_154 : decode cX4_turnsBy 154 = .ok (.iload 5, 2) := by decide +kernel
theorem dX4_turnsBy_156 : decode cX4_turnsBy 156 = .ok (.invokestatic 51, 3) := by decide +kernel
theorem dX4_turnsBy_159 : decode cX4_turnsBy 159 = .ok (.invokevirtual 47, 3) := by decide +kernel
theorem dX4_turnsBy_162 : decode cX4_turnsBy 162 = .ok (.goto 40, 3) := by decide +kernel
theorem dX4_turnsBy_165 : decode cX4_turnsBy 165 = .ok (.aload_n 0, 1) := by decide +kernel
theorem dX4_turnsBy_166 : decode cX4_turnsBy 166 = .ok (.iload 4, 2) := by decide +kernel
theorem dX4_turnsBy_168 : decode cX4_turnsBy 168 = .ok (.sipush 1000, 3) := by decide +kernel
theorem dX4_turnsBy_171 : decode cX4_turnsBy 171 = .ok (.isub, 1) := by decide +kernel
theorem dX4_turnsBy_172 : decode cX4_turnsBy 172 = .ok (.ifCond .lt 25, 3) := by decide +kernel
theorem dX4_turnsBy_175 : decode cX4_turnsBy 175 = .ok (.iload 4, 2) := by decide +kernel
theorem dX4_turnsBy_177 : decode cX4_turnsBy 177 = .ok (.sipush 1000, 3) := by decide +kernel
theorem dX4_turnsBy_180 : decode cX4_turnsBy 180 = .ok (.isub, 1) := by decide +kernel
theorem dX4_turnsBy_181 : decode cX4_turnsBy 181 = .ok (.aload_n 1, 1) := by decide +kernel
theorem dX4_turnsBy_182 : decode cX4_turnsBy 182 = .ok (.arraylength, 1) := by decide +kernel
theorem dX4_turnsBy_183 : decode cX4_turnsBy 183 = .ok (.if_icmp .ge 14, 3) := by decide +kernel
theorem dX4_turnsBy_186 : decode cX4_turnsBy 186 = .ok (.aload_n 1, 1) := by decide +kernel
theorem dX4_turnsBy_187 : decode cX4_turnsBy 187 = .ok (.iload 4, 2) := by decide +kernel
theorem dX4_turnsBy_189 : decode cX4_turnsBy 189 = .ok (.sipush 1000, 3) := by decide +kernel
theorem dX4_turnsBy_192 : decode cX4_turnsBy 192 = .ok (.isub, 1) := by decide +kernel
theorem dX4_turnsBy_193 : decode cX4_turnsBy 193 = .ok (.iaload, 1) := by decide +kernel
theorem dX4_turnsBy_194 : decode cX4_turnsBy 194 = .ok (.goto 5, 3) := by decide +kernel
theorem dX4_turnsBy_197 : decode cX4_turnsBy 197 = .ok (.iload 4, 2) := by decide +kernel
theorem dX4_turnsBy_199 : decode cX4_turnsBy 199 = .ok (.invokevirtual 47, 3) := by decide +kernel
theorem dX4_turnsBy_202 : decode cX4_turnsBy 202 = .ok (.iinc 3 1, 3) := by decide +kernel
theorem dX4_turnsBy_205 : decode cX4_turnsBy 205 = .ok (.goto (-186), 3) := by decide +kernel
theorem dX4_turnsBy_208 : decode cX4_turnsBy 208 = .ok (.iload_n 2, 1) := by decide +kernel
theorem dX4_turnsBy_209 : decode cX4_turnsBy 209 = .ok (.ireturn, 1) := by decide +kernel
def lp_X4_turnsBy_19 (h : Nat) : Nat → Int32 → Int32 → Mem → Option (Int32 × Mem)
  | 0, _, _, _ => none
  | n + 1, x2, x3, μ4 => if (μ4 (h + 1) 7 2) ≤ x3 then (some (x2, μ4)) else (if 400 ≤ x3 then (some (x2, μ4)) else (ix x3 400 (nm (μ4 (h + 1) 8 x3.toNatClampNeg) fun (x5 : Int32) => if x5 < 1200 then (if x5 < 1100 then (if x5 = 1015 then ((f_X4_pop h μ4).bind fun (q6 : Int32 × Mem) => nm (fun (x7 : Int32) => (f_X4_push h q6.2 x7).bind fun (q8 : Mem) => lp_X4_turnsBy_19 h n x2 (x3 + 1) q8) fun (J127 : Int32 → Option (Int32 × Mem)) => if q6.1 = 0 then (J127 1) else (J127 0)) else (if x5 < 1010 then (nm (fun (x9 : Int32) => (f_X4_push h μ4 x9).bind fun (q10 : Mem) => lp_X4_turnsBy_19 h n x2 (x3 + 1) q10) fun (J199 : Int32 → Option (Int32 × Mem)) => nm (J199 x5) fun (J197 : Option (Int32 × Mem)) => if (x5 - 1000) < 0 then (J197) else (if 9 ≤ (x5 - 1000) then (J197) else (ix (x5 - 1000) 9 (J199 (μ4 (h + 1) 11 (x5 - 1000).toNatClampNeg))))) else ((f_X4_pop h μ4).bind fun (q11 : Int32 × Mem) => (f_X4_pop h q11.2).bind fun (q12 : Int32 × Mem) => (f_X4_joined x5 q12.1 q11.1).bind fun (q13 : Int32) => (f_X4_push h q12.2 q13).bind fun (q14 : Mem) => lp_X4_turnsBy_19 h n x2 (x3 + 1) q14))) else ((f_X4_pop h μ4).bind fun (q15 : Int32 × Mem) => if q15.1 = 0 then (lp_X4_turnsBy_19 h n (x2 + 0) (x3 + 1) q15.2) else (lp_X4_turnsBy_19 h n (x2 + (x5 - 1100)) (x3 + 1) q15.2))) else ((f_X4_pop h μ4).bind fun (q16 : Int32 × Mem) => if q16.1 = 0 then (lp_X4_turnsBy_19 h n (x2 - 0) (x3 + 1) q16.2) else (lp_X4_turnsBy_19 h n (x2 - (x5 - 1200)) (x3 + 1) q16.2)))))
def f_X4_turnsBy (h : Nat) (μ : Mem) : Option (Int32 × Mem) := if (μ (h + 1) 7 4) = (-1) then (some (1, μ)) else (nm (upm μ (h + 1) 7 3 0) fun (μ1 : Mem) => lp_X4_turnsBy_19 h 4096 0 0 μ1)
set_option maxHeartbeats 4000000 in
set_option maxRecDepth 100000 in
theorem c_X4_turnsBy (G : GG) (l : Launch) (h : Nat) (hh : h < 15) (μ : Mem) : CI G l yX4_turnsBy (.code yX4_turnsBy cX4_turnsBy 6 (some .int)) 2 [.ref (gad G (h + 1) 7), .ref (gad G (h + 1) 11)] μ (f_X4_turnsBy h μ) := by
  refine CI.of (own := "SaturdayKeep$Law") (L0 := [some (.ref (gad G (h + 1) 7)), some (.ref (gad G (h + 1) 11)), none, none, none, none]) rfl rfl rfl (Nat.le_of_ble_eq_true rfl) (fun C hl hC => ?_)
  subst hl
  delta f_X4_turnsBy
  refine aw_aload_n (pc := 0) (i := 0) hC dX4_turnsBy_0 rfl rfl ?_
  refine aw_get (pc := 1) hC inX4 (vH (j := 7) hh (by decide)) rfl rfl 4 (by decide) kw106 rfl rfl dX4_turnsBy_1 ?_
  refine aw_iconst (pc := 4) (v := (-1)) hC dX4_turnsBy_4 icm1 ?_
  refine aw_icmp_ne (pc := 5) (tgt := 10) hC dX4_turnsBy_5 (by decide) (fun _ => ?_) (fun _ => ?_)
  · skip
    refine aw_iconst (pc := 8) (v := 1) hC dX4_turnsBy_8 ic1 ?_
    exact aw_iret hC dX4_turnsBy_9
  · skip
    refine aw_iconst (pc := 10) (v := 0) hC dX4_turnsBy_10 ic0 ?_
    refine aw_istore_n (pc := 11) (i := 2) hC dX4_turnsBy_11 rfl rfl (by decide) ?_
    refine aw_aload_n (pc := 12) (i := 0) hC dX4_turnsBy_12 rfl rfl ?_
    refine aw_iconst (pc := 13) (v := 0) hC dX4_turnsBy_13 ic0 ?_
    refine aw_putIN (pc := 14) hC inX4 (vH (j := 7) hh (by decide)) rfl rfl 3 (by decide) kw105 rfl tyX4 tyX4_ok nmX4 rfl rfl (Nat.le_of_ble_eq_true rfl) rfl dX4_turnsBy_14 (fun μ1 => ?_)
    refine aw_iconst (pc := 17) (v := 0) hC dX4_turnsBy_17 ic0 ?_
    refine aw_istore_n (pc := 18) (i := 3) hC dX4_turnsBy_18 rfl rfl (by decide) ?_
    have hL19 : ∀ (n : Nat) (x2 : Int32) (x3 : Int32) (μ4 : Mem), AW G C (qI G C 0 0) 0 0 6 μ4 19 [some (.ref (gad G (h + 1) 7)), some (.ref (gad G (h + 1) 11)), some (.int x2), some (.int x3), none, none] [] (lp_X4_turnsBy_19 h n x2 x3 μ4) := by
      intro n
      induction n with
      | zero => intro x2 x3 μ4; exact aw_none
      | succ n ih =>
        intro x2 x3 μ4
        rw [lp_X4_turnsBy_19]
        refine aw_iload_n (pc := 19) (i := 3) hC dX4_turnsBy_19 rfl rfl ?_
        refine aw_aload_n (pc := 20) (i := 0) hC dX4_turnsBy_20 rfl rfl ?_
        refine aw_get (pc := 21) hC inX4 (vH (j := 7) hh (by decide)) rfl rfl 2 (by decide) kw103 rfl rfl dX4_turnsBy_21 ?_
        refine aw_icmp_ge (pc := 24) (tgt := 208) hC dX4_turnsBy_24 (by decide) (fun _ => ?_) (fun _ => ?_)
        · skip
          refine aw_iload_n (pc := 208) (i := 2) hC dX4_turnsBy_208 rfl rfl ?_
          exact aw_iret hC dX4_turnsBy_209
        · skip
          refine aw_iload_n (pc := 27) (i := 3) hC dX4_turnsBy_27 rfl rfl ?_
          refine aw_aload_n (pc := 28) (i := 0) hC dX4_turnsBy_28 rfl rfl ?_
          refine aw_get (pc := 29) hC inX4 (vH (j := 7) hh (by decide)) rfl rfl 0 (by decide) kw101 rfl rfl dX4_turnsBy_29 ?_
          refine aw_alen (pc := 32) (v := 400) hC (vH (j := 8) hh (by decide)) rfl (by decide) dX4_turnsBy_32 ?_
          refine aw_icmp_ge (pc := 33) (tgt := 208) hC dX4_turnsBy_33 (by decide) (fun _ => ?_) (fun _ => ?_)
          · skip
            refine aw_iload_n (pc := 208) (i := 2) hC dX4_turnsBy_208 rfl rfl ?_
            exact aw_iret hC dX4_turnsBy_209
          · skip
            refine aw_aload_n (pc := 36) (i := 0) hC dX4_turnsBy_36 rfl rfl ?_
            refine aw_get (pc := 37) hC inX4 (vH (j := 7) hh (by decide)) rfl rfl 0 (by decide) kw101 rfl rfl dX4_turnsBy_37 ?_
            refine aw_iload_n (pc := 40) (i := 3) hC dX4_turnsBy_40 rfl rfl ?_
            refine aw_iaload (pc := 41) hC (vH (j := 8) hh (by decide)) rfl dX4_turnsBy_41 ?_
            refine aw_nmI (fun x5 _ => ?_)
            refine aw_istore (pc := 42) hC dX4_turnsBy_42 rfl (by decide) ?_
            refine aw_iload (pc := 44) hC dX4_turnsBy_44 rfl ?_
            refine aw_sipush (pc := 46) (v := 1200) hC dX4_turnsBy_46 sc1200 ?_
            refine aw_icmp_lt (pc := 49) (tgt := 75) hC dX4_turnsBy_49 (by decide) (fun _ => ?_) (fun _ => ?_)
            · skip
              refine aw_iload (pc := 75) hC dX4_turnsBy_75 rfl ?_
              refine aw_sipush (pc := 77) (v := 1100) hC dX4_turnsBy_77 sc1100 ?_
              refine aw_icmp_lt (pc := 80) (tgt := 106) hC dX4_turnsBy_80 (by decide) (fun _ => ?_) (fun _ => ?_)
              · skip
                refine aw_iload (pc := 106) hC dX4_turnsBy_106 rfl ?_
                refine aw_sipush (pc := 108) (v := 1015) hC dX4_turnsBy_108 sc1015 ?_
                refine aw_icmp_ne (pc := 111) (tgt := 133) hC dX4_turnsBy_111 (by decide) (fun _ => ?_) (fun _ => ?_)
                · skip
                  refine aw_aload_n (pc := 114) (i := 0) hC dX4_turnsBy_114 rfl rfl ?_
                  refine aw_aload_n (pc := 115) (i := 0) hC dX4_turnsBy_115 rfl rfl ?_
                  refine aw_callVI (pc := 116) (As := []) hC mb_X4_pop kw911 (by decide) (c_X4_pop G C.2.1 h (Nat.lt_of_lt_of_le hh (by decide)) μ4 ) (vH (j := 7) hh (by decide)) rfl rfl rfl (Nat.le_of_ble_eq_true rfl) dX4_turnsBy_116 (fun q6 => ?_)
                  refine aw_nmJ (fun (J127 : Int32 → Option (Int32 × Mem)) => ∀ (x7 : Int32), AW G C (qI G C 0 0) 0 0 6 q6.2 127 [some (.ref (gad G (h + 1) 7)), some (.ref (gad G (h + 1) 11)), some (.int x2), some (.int x3), none, none] [.int x7, .ref (gad G (h + 1) 7)] (J127 x7)) (fun x7 => ?_) (fun J127 hJ127 => ?_)
                  · skip
                    refine aw_callVV (pc := 127) (As := [.int x7]) hC mb_X4_push kw915 (by decide) (c_X4_push G C.2.1 h (Nat.lt_of_lt_of_le hh (by decide)) q6.2 x7) (vH (j := 7) hh (by decide)) rfl rfl rfl (Nat.le_of_ble_eq_true rfl) dX4_turnsBy_127 (fun q8 => ?_)
                    refine aw_goto (pc := 130) (tgt := 202) hC dX4_turnsBy_130 (by decide) ?_
                    refine aw_iinc (pc := 202) (v := x3 + 1) hC dX4_turnsBy_202 rfl (congrArg (HAdd.hAdd _) ic1) rfl (by decide) ?_
                    refine aw_goto (pc := 205) (tgt := 19) hC dX4_turnsBy_205 (by decide) ?_
                    exact ih x2 (x3 + 1) q8
                  · skip
                    refine aw_if_eq (pc := 119) (tgt := 126) hC dX4_turnsBy_119 (by decide) (fun _ => ?_) (fun _ => ?_)
                    · skip
                      refine aw_iconst (pc := 126) (v := 1) hC dX4_turnsBy_126 ic1 ?_
                      exact aw_drop [4] (hJ127 1)
                    · skip
                      refine aw_iconst (pc := 122) (v := 0) hC dX4_turnsBy_122 ic0 ?_
                      refine aw_goto (pc := 123) (tgt := 127) hC dX4_turnsBy_123 (by decide) ?_
                      exact aw_drop [4] (hJ127 0)
                · skip
                  refine aw_iload (pc := 133) hC dX4_turnsBy_133 rfl ?_
                  refine aw_sipush (pc := 135) (v := 1010) hC dX4_turnsBy_135 sc1010 ?_
                  refine aw_icmp_lt (pc := 138) (tgt := 165) hC dX4_turnsBy_138 (by decide) (fun _ => ?_) (fun _ => ?_)
                  · skip
                    refine aw_aload_n (pc := 165) (i := 0) hC dX4_turnsBy_165 rfl rfl ?_
                    refine aw_iload (pc := 166) hC dX4_turnsBy_166 rfl ?_
                    refine aw_sipush (pc := 168) (v := 1000) hC dX4_turnsBy_168 sc1000 ?_
                    refine aw_isub (pc := 171) hC dX4_turnsBy_171 ?_
                    refine aw_nmJ (fun (J199 : Int32 → Option (Int32 × Mem)) => ∀ (x9 : Int32), AW G C (qI G C 0 0) 0 0 6 μ4 199 [some (.ref (gad G (h + 1) 7)), some (.ref (gad G (h + 1) 11)), some (.int x2), some (.int x3), none, none] [.int x9, .ref (gad G (h + 1) 7)] (J199 x9)) (fun x9 => ?_) (fun J199 hJ199 => ?_)
                    · skip
                      refine aw_callVV (pc := 199) (As := [.int x9]) hC mb_X4_push kw915 (by decide) (c_X4_push G C.2.1 h (Nat.lt_of_lt_of_le hh (by decide)) μ4 x9) (vH (j := 7) hh (by decide)) rfl rfl rfl (Nat.le_of_ble_eq_true rfl) dX4_turnsBy_199 (fun q10 => ?_)
                      refine aw_iinc (pc := 202) (v := x3 + 1) hC dX4_turnsBy_202 rfl (congrArg (HAdd.hAdd _) ic1) rfl (by decide) ?_
                      refine aw_goto (pc := 205) (tgt := 19) hC dX4_turnsBy_205 (by decide) ?_
                      exact ih x2 (x3 + 1) q10
                    · skip
                      refine aw_nmJ (fun (J197 : Option (Int32 × Mem)) => AW G C (qI G C 0 0) 0 0 6 μ4 197 [some (.ref (gad G (h + 1) 7)), some (.ref (gad G (h + 1) 11)), some (.int x2), some (.int x3), some (.int x5), none] [.ref (gad G (h + 1) 7)] (J197)) ?_ (fun J197 hJ197 => ?_)
                      · skip
                        refine aw_iload (pc := 197) hC dX4_turnsBy_197 rfl ?_
                        exact aw_drop [4] (hJ199 x5)
                      · skip
                        refine aw_if_lt (pc := 172) (tgt := 197) hC dX4_turnsBy_172 (by decide) (fun _ => ?_) (fun _ => ?_)
                        · skip
                          exact hJ197
                        · skip
                          refine aw_iload (pc := 175) hC dX4_turnsBy_175 rfl ?_
                          refine aw_sipush (pc := 177) (v := 1000) hC dX4_turnsBy_177 sc1000 ?_
                          refine aw_isub (pc := 180) hC dX4_turnsBy_180 ?_
                          refine aw_aload_n (pc := 181) (i := 1) hC dX4_turnsBy_181 rfl rfl ?_
                          refine aw_alen (pc := 182) (v := 9) hC (vH (j := 11) hh (by decide)) rfl (by decide) dX4_turnsBy_182 ?_
                          refine aw_icmp_ge (pc := 183) (tgt := 197) hC dX4_turnsBy_183 (by decide) (fun _ => ?_) (fun _ => ?_)
                          · skip
                            exact hJ197
                          · skip
                            refine aw_aload_n (pc := 186) (i := 1) hC dX4_turnsBy_186 rfl rfl ?_
                            refine aw_iload (pc := 187) hC dX4_turnsBy_187 rfl ?_
                            refine aw_sipush (pc := 189) (v := 1000) hC dX4_turnsBy_189 sc1000 ?_
                            refine aw_isub (pc := 192) hC dX4_turnsBy_192 ?_
                            refine aw_iaload (pc := 193) hC (vH (j := 11) hh (by decide)) rfl dX4_turnsBy_193 ?_
                            refine aw_goto (pc := 194) (tgt := 199) hC dX4_turnsBy_194 (by decide) ?_
                            exact aw_drop [4] (hJ199 (μ4 (h + 1) 11 (x5 - 1000).toNatClampNeg))
                  · skip
                    refine aw_aload_n (pc := 141) (i := 0) hC dX4_turnsBy_141 rfl rfl ?_
                    refine aw_callVI (pc := 142) (As := []) hC mb_X4_pop kw911 (by decide) (c_X4_pop G C.2.1 h (Nat.lt_of_lt_of_le hh (by decide)) μ4 ) (vH (j := 7) hh (by decide)) rfl rfl rfl (Nat.le_of_ble_eq_true rfl) dX4_turnsBy_142 (fun q11 => ?_)
                    refine aw_istore (pc := 145) hC dX4_turnsBy_145 rfl (by decide) ?_
                    refine aw_aload_n (pc := 147) (i := 0) hC dX4_turnsBy_147 rfl rfl ?_
                    refine aw_iload (pc := 148) hC dX4_turnsBy_148 rfl ?_
                    refine aw_aload_n (pc := 150) (i := 0) hC dX4_turnsBy_150 rfl rfl ?_
                    refine aw_callVI (pc := 151) (As := []) hC mb_X4_pop kw911 (by decide) (c_X4_pop G C.2.1 h (Nat.lt_of_lt_of_le hh (by decide)) q11.2 ) (vH (j := 7) hh (by decide)) rfl rfl rfl (Nat.le_of_ble_eq_true rfl) dX4_turnsBy_151 (fun q12 => ?_)
                    refine aw_iload (pc := 154) hC dX4_turnsBy_154 rfl ?_
                    refine aw_callSR (pc := 156) (As := [.int x5, .int q12.1, .int q11.1]) hC ms_X4_joined kw919 (by decide) (c_X4_joined G C.2.1   q12.2 x5 q12.1 q11.1) rfl (Nat.le_of_ble_eq_true rfl) dX4_turnsBy_156 (fun q13 => ?_)
                    refine aw_callVV (pc := 159) (As := [.int q13]) hC mb_X4_push kw915 (by decide) (c_X4_push G C.2.1 h (Nat.lt_of_lt_of_le hh (by decide)) q12.2 q13) (vH (j := 7) hh (by decide)) rfl rfl rfl (Nat.le_of_ble_eq_true rfl) dX4_turnsBy_159 (fun q14 => ?_)
                    refine aw_goto (pc := 162) (tgt := 202) hC dX4_turnsBy_162 (by decide) ?_
                    refine aw_iinc (pc := 202) (v := x3 + 1) hC dX4_turnsBy_202 rfl (congrArg (HAdd.hAdd _) ic1) rfl (by decide) ?_
                    refine aw_goto (pc := 205) (tgt := 19) hC dX4_turnsBy_205 (by decide) ?_
                    exact aw_drop [4, 5] (ih x2 (x3 + 1) q14)
              · skip
                refine aw_iload_n (pc := 83) (i := 2) hC dX4_turnsBy_83 rfl rfl ?_
                refine aw_aload_n (pc := 84) (i := 0) hC dX4_turnsBy_84 rfl rfl ?_
                refine aw_callVI (pc := 85) (As := []) hC mb_X4_pop kw911 (by decide) (c_X4_pop G C.2.1 h (Nat.lt_of_lt_of_le hh (by decide)) μ4 ) (vH (j := 7) hh (by decide)) rfl rfl rfl (Nat.le_of_ble_eq_true rfl) dX4_turnsBy_85 (fun q15 => ?_)
                refine aw_if_eq (pc := 88) (tgt := 100) hC dX4_turnsBy_88 (by decide) (fun _ => ?_) (fun _ => ?_)
                · skip
                  refine aw_iconst (pc := 100) (v := 0) hC dX4_turnsBy_100 ic0 ?_
                  refine aw_iadd (pc := 101) hC dX4_turnsBy_101 ?_
                  refine aw_istore_n (pc := 102) (i := 2) hC dX4_turnsBy_102 rfl rfl (by decide) ?_
                  refine aw_goto (pc := 103) (tgt := 202) hC dX4_turnsBy_103 (by decide) ?_
                  refine aw_iinc (pc := 202) (v := x3 + 1) hC dX4_turnsBy_202 rfl (congrArg (HAdd.hAdd _) ic1) rfl (by decide) ?_
                  refine aw_goto (pc := 205) (tgt := 19) hC dX4_turnsBy_205 (by decide) ?_
                  exact aw_drop [4] (ih (x2 + 0) (x3 + 1) q15.2)
                · skip
                  refine aw_iload (pc := 91) hC dX4_turnsBy_91 rfl ?_
                  refine aw_sipush (pc := 93) (v := 1100) hC dX4_turnsBy_93 sc1100 ?_
                  refine aw_isub (pc := 96) hC dX4_turnsBy_96 ?_
                  refine aw_goto (pc := 97) (tgt := 101) hC dX4_turnsBy_97 (by decide) ?_
                  refine aw_iadd (pc := 101) hC dX4_turnsBy_101 ?_
                  refine aw_istore_n (pc := 102) (i := 2) hC dX4_turnsBy_102 rfl rfl (by decide) ?_
                  refine aw_goto (pc := 103) (tgt := 202) hC dX4_turnsBy_103 (by decide) ?_
                  refine aw_iinc (pc := 202) (v := x3 + 1) hC dX4_turnsBy_202 rfl (congrArg (HAdd.hAdd _) ic1) rfl (by decide) ?_
                  refine aw_goto (pc := 205) (tgt := 19) hC dX4_turnsBy_205 (by decide) ?_
                  exact aw_drop [4] (ih (x2 + (x5 - 1100)) (x3 + 1) q15.2)
            · skip
              refine aw_iload_n (pc := 52) (i := 2) hC dX4_turnsBy_52 rfl rfl ?_
              refine aw_aload_n (pc := 53) (i := 0) hC dX4_turnsBy_53 rfl rfl ?_
              refine aw_callVI (pc := 54) (As := []) hC mb_X4_pop kw911 (by decide) (c_X4_pop G C.2.1 h (Nat.lt_of_lt_of_le hh (by decide)) μ4 ) (vH (j := 7) hh (by decide)) rfl rfl rfl (Nat.le_of_ble_eq_true rfl) dX4_turnsBy_54 (fun q16 => ?_)
              refine aw_if_eq (pc := 57) (tgt := 69) hC dX4_turnsBy_57 (by decide) (fun _ => ?_) (fun _ => ?_)
              · skip
                refine aw_iconst (pc := 69) (v := 0) hC dX4_turnsBy_69 ic0 ?_
                refine aw_isub (pc := 70) hC dX4_turnsBy_70 ?_
                refine aw_istore_n (pc := 71) (i := 2) hC dX4_turnsBy_71 rfl rfl (by decide) ?_
                refine aw_goto (pc := 72) (tgt := 202) hC dX4_turnsBy_72 (by decide) ?_
                refine aw_iinc (pc := 202) (v := x3 + 1) hC dX4_turnsBy_202 rfl (congrArg (HAdd.hAdd _) ic1) rfl (by decide) ?_
                refine aw_goto (pc := 205) (tgt := 19) hC dX4_turnsBy_205 (by decide) ?_
                exact aw_drop [4] (ih (x2 - 0) (x3 + 1) q16.2)
              · skip
                refine aw_iload (pc := 60) hC dX4_turnsBy_60 rfl ?_
                refine aw_sipush (pc := 62) (v := 1200) hC dX4_turnsBy_62 sc1200 ?_
                refine aw_isub (pc := 65) hC dX4_turnsBy_65 ?_
                refine aw_goto (pc := 66) (tgt := 70) hC dX4_turnsBy_66 (by decide) ?_
                refine aw_isub (pc := 70) hC dX4_turnsBy_70 ?_
                refine aw_istore_n (pc := 71) (i := 2) hC dX4_turnsBy_71 rfl rfl (by decide) ?_
                refine aw_goto (pc := 72) (tgt := 202) hC dX4_turnsBy_72 (by decide) ?_
                refine aw_iinc (pc := 202) (v := x3 + 1) hC dX4_turnsBy_202 rfl (congrArg (HAdd.hAdd _) ic1) rfl (by decide) ?_
                refine aw_goto (pc := 205) (tgt := 19) hC dX4_turnsBy_205 (by decide) ?_
                exact aw_drop [4] (ih (x2 - (x5 - 1200)) (x3 + 1) q16.2)
    exact hL19 4096 0 0 μ1
theorem dX2_shiftOf_0 : decode cX2_shiftOf 0 = .ok (.iload_n 1, 1) := by decide +kernel
theorem dX2_shiftOf_1 : decode cX2_shiftOf 1 = .ok (.ifCond .ne 10, 3) := by decide +kernel
theorem dX2_shiftOf_4 : decode cX2_shiftOf 4 = .ok (.aload_n 0, 1) := by decide +kernel
theorem dX2_shiftOf_5 : decode cX2_shiftOf 5 = .ok (.getfield 39, 3) := by decide +kernel
theorem dX2_shiftOf_8 : decode cX2_shiftOf 8 = .ok (.goto 7, 3) := by decide +kernel
theorem dX2_shiftOf_11 : decode cX2_shiftOf 11 = .ok (.aload_n 0, 1) := by decide +kernel
theorem dX2_shiftOf_12 : decode cX2_shiftOf 12 = .ok (.getfield 43, 3) := by decide +kernel
theorem dX2_shiftOf_15 : decode cX2_shiftOf 15 = .ok (.ireturn, 1) := by decide +kernel
def f_X2_shiftOf (h : Nat) (μ : Mem) (a1 : Int32) : Option (Int32) := if a1 = 0 then (some (μ (h + 1) 0 5)) else (some (μ (h + 1) 0 6))
set_option maxHeartbeats 4000000 in
set_option maxRecDepth 100000 in
theorem c_X2_shiftOf (G : GG) (l : Launch) (h : Nat) (hh : h < 15) (μ : Mem) (a1 : Int32) : CR G l yX2_shiftOf (.code yX2_shiftOf cX2_shiftOf 2 (some .int)) 1 [.ref (gad G (h + 1) 0), .int a1] μ (f_X2_shiftOf h μ a1) := by
  refine CR.of (own := "SaturdayKeep$House") (L0 := [some (.ref (gad G (h + 1) 0)), some (.int a1)]) rfl rfl rfl (Nat.le_of_ble_eq_true rfl) (fun C hl hC => ?_)
  subst hl
  delta f_X2_shiftOf
  refine aw_iload_n (pc := 0) (i := 1) hC dX2_shiftOf_0 rfl rfl ?_
  refine aw_if_ne (pc := 1) (tgt := 11) hC dX2_shiftOf_1 (by decide) (fun _ => ?_) (fun _ => ?_)
  · skip
    refine aw_aload_n (pc := 4) (i := 0) hC dX2_shiftOf_4 rfl rfl ?_
    refine aw_get (pc := 5) hC inX2 (vH (j := 0) hh (by decide)) rfl rfl 5 (by decide) kw193 rfl rfl dX2_shiftOf_5 ?_
    refine aw_goto (pc := 8) (tgt := 15) hC dX2_shiftOf_8 (by decide) ?_
    exact aw_iretR hC dX2_shiftOf_15
  · skip
    refine aw_aload_n (pc := 11) (i := 0) hC dX2_shiftOf_11 rfl rfl ?_
    refine aw_get (pc := 12) hC inX2 (vH (j := 0) hh (by decide)) rfl rfl 6 (by decide) kw194 rfl rfl dX2_shiftOf_12 ?_
    exact aw_iretR hC dX2_shiftOf_15
theorem dX2_isSaturday_0 : decode cX2_isSaturday 0 = .ok (.iload_n 2, 1) := by decide +kernel
theorem dX2_isSaturday_1 : decode cX2_isSaturday 1 = .ok (.aload_n 0, 1) := by decide +kernel
theorem dX2_isSaturday_2 : decode cX2_isSaturday 2 = .ok (.iload_n 1, 1) := by decide +kernel
theorem dX2_isSaturday_3 : decode cX2_isSaturday 3 = .ok (.invokevirtual 92, 3) := by decide +kernel
theorem dX2_isSaturday_6 : decode cX2_isSaturday 6 = .ok (.iadd, 1) := by decide +kernel
theorem dX2_isSaturday_7 : decode cX2_isSaturday 7 = .ok (.bipush 7, 2) := by decide +kernel
theorem dX2_isSaturday_9 : decode cX2_isSaturday 9 = .ok (.irem, 1) := by decide +kernel
theorem dX2_isSaturday_10 : decode cX2_isSaturday 10 = .ok (.bipush 6, 2) := by decide +kernel
theorem dX2_isSaturday_12 : decode cX2_isSaturday 12 = .ok (.if_icmp .ne 7, 3) := by decide +kernel
theorem dX2_isSaturday_15 : decode cX2_isSaturday 15 = .ok (.iconst 1, 1) := by decide +kernel
theorem dX2_isSaturday_16 : decode cX2_isSaturday 16 = .ok (.goto 4, 3) := by decide +kernel
theorem dX2_isSaturday_19 : decode cX2_isSaturday 19 = .ok (.iconst 0, 1) := by decide +kernel
theorem dX2_isSaturday_20 : decode cX2_isSaturday 20 = .ok (.ireturn, 1) := by decide +kernel
def f_X2_isSaturday (h : Nat) (μ : Mem) (a1 : Int32) (a2 : Int32) : Option (Int32) := (f_X2_shiftOf h μ a1).bind fun (q1 : Int32) => if (jrem (a2 + q1) 7) = 6 then (some 1) else (some 0)
set_option maxHeartbeats 4000000 in
set_option maxRecDepth 100000 in
theorem c_X2_isSaturday (G : GG) (l : Launch) (h : Nat) (hh : h < 15) (μ : Mem) (a1 : Int32) (a2 : Int32) : CR G l yX2_isSaturday (.code yX2_isSaturday cX2_isSaturday 3 (some .boolean)) 2 [.ref (gad G (h + 1) 0), .int a1, .int a2] μ (f_X2_isSaturday h μ a1 a2) := by
  refine CR.of (own := "SaturdayKeep$House") (L0 := [some (.ref (gad G (h + 1) 0)), some (.int a1), some (.int a2)]) rfl rfl rfl (Nat.le_of_ble_eq_true rfl) (fun C hl hC => ?_)
  subst hl
  delta f_X2_isSaturday
  refine aw_iload_n (pc := 0) (i := 2) hC dX2_isSaturday_0 rfl rfl ?_
  refine aw_aload_n (pc := 1) (i := 0) hC dX2_isSaturday_1 rfl rfl ?_
  refine aw_iload_n (pc := 2) (i := 1) hC dX2_isSaturday_2 rfl rfl ?_
  refine aw_callVR (pc := 3) (As := [.int a1]) hC mb_X2_shiftOf kw338 (by decide) (c_X2_shiftOf G C.2.1 h (Nat.lt_of_lt_of_le hh (by decide)) μ a1) (vH (j := 0) hh (by decide)) rfl rfl rfl (Nat.le_of_ble_eq_true rfl) dX2_isSaturday_3 (fun q1 => ?_)
  refine aw_iadd (pc := 6) hC dX2_isSaturday_6 ?_
  refine aw_bipush (pc := 7) (v := 7) hC dX2_isSaturday_7 bc7 ?_
  refine aw_irem (pc := 9) hC dX2_isSaturday_9 (by decide) ?_
  refine aw_bipush (pc := 10) (v := 6) hC dX2_isSaturday_10 bc6 ?_
  refine aw_icmp_ne (pc := 12) (tgt := 19) hC dX2_isSaturday_12 (by decide) (fun _ => ?_) (fun _ => ?_)
  · skip
    refine aw_iconst (pc := 15) (v := 1) hC dX2_isSaturday_15 ic1 ?_
    refine aw_goto (pc := 16) (tgt := 20) hC dX2_isSaturday_16 (by decide) ?_
    exact aw_zret1R hC dX2_isSaturday_20
  · skip
    refine aw_iconst (pc := 19) (v := 0) hC dX2_isSaturday_19 ic0 ?_
    exact aw_zret0R hC dX2_isSaturday_20
theorem dX2_saturdaysAt_0 : decode cX2_saturdaysAt 0 = .ok (.aload_n 0, 1) := by decide +kernel
theorem dX2_saturdaysAt_1 : decode cX2_saturdaysAt 1 = .ok (.iconst 0, 1) := by decide +kernel
theorem dX2_saturdaysAt_2 : decode cX2_saturdaysAt 2 = .ok (.aload_n 0, 1) := by decide +kernel
theorem dX2_saturdaysAt_3 : decode cX2_saturdaysAt 3 = .ok (.getfield 83, 3) := by decide +kernel
theorem dX2_saturdaysAt_6 : decode cX2_saturdaysAt 6 = .ok (.iload_n 1, 1) := by decide +kernel
theorem dX2_saturdaysAt_7 : decode cX2_saturdaysAt 7 = .ok (.iadd, 1) := by decide +kernel
theorem dX2_saturdaysAt_8 : decode cX2_saturdaysAt 8 = .ok (.invokevirtual 96, 3) := by decide +kernel
theorem dX2_saturdaysAt_11 : decode cX2_saturdaysAt 11 = .ok (.ifCond .eq 7, 3) := by decide +kernel
theorem dX2_saturdaysAt_14 : decode cX2_saturdaysAt 14 = .ok (.iconst 1, 1) := by decide +kernel
theorem dX2_saturdaysAt_15 : decode cX2_saturdaysAt 15 = .ok (.goto 4, 3) := by decide +kernel
theorem dX2_saturdaysAt_18 : decode cX2_saturdaysAt 18 = .ok (.iconst 0, 1) := by decide +kernel
theorem dX2_saturdaysAt_19 : decode cX2_saturdaysAt 19 = .ok (.aload_n 0, 1) := by decide +kernel
theorem dX2_saturdaysAt_20 : decode cX2_saturdaysAt 20 = .ok (.iconst 1, 1) := by decide +kernel
theorem dX2_saturdaysAt_21 : decode cX2_saturdaysAt 21 = .ok (.aload_n 0, 1) := by decide +kernel
theorem dX2_saturdaysAt_22 : decode cX2_saturdaysAt 22 = .ok (.getfield 83, 3) := by decide +kernel
theorem dX2_saturdaysAt_25 : decode cX2_saturdaysAt 25 = .ok (.iload_n 1, 1) := by decide +kernel
theorem dX2_saturdaysAt_26 : decode cX2_saturdaysAt 26 = .ok (.iadd, 1) := by decide +kernel
theorem dX2_saturdaysAt_27 : decode cX2_saturdaysAt 27 = .ok (.invokevirtual 96, 3) := by decide +kernel
theorem dX2_saturdaysAt_30 : decode cX2_saturdaysAt 30 = .ok (.ifCond .eq 7, 3) := by decide +kernel
theorem dX2_saturdaysAt_33 : decode cX2_saturdaysAt 33 = .ok (.iconst 1, 1) := by decide +kernel
theorem dX2_saturdaysAt_34 : decode cX2_saturdaysAt 34 = .ok (.goto 4, 3) := by decide +kernel
theorem dX2_saturdaysAt_37 : decode cX2_saturdaysAt 37 = .ok (.iconst 0, 1) := by decide +kernel
theorem dX2_saturdaysAt_38 : decode cX2_saturdaysAt 38 = .ok (.iadd, 1) := by decide +kernel
theorem dX2_saturdaysAt_39 : decode cX2_saturdaysAt 39 = .ok (.ireturn, 1) := by decide +kernel
def f_X2_saturdaysAt (h : Nat) (μ : Mem) (a1 : Int32) : Option (Int32) := (f_X2_isSaturday h μ 0 ((μ (h + 1) 0 13) + a1)).bind fun (q1 : Int32) => nm (fun (x2 : Int32) => (f_X2_isSaturday h μ 1 ((μ (h + 1) 0 13) + a1)).bind fun (q3 : Int32) => if q3 = 0 then (some (x2 + 0)) else (some (x2 + 1))) fun (J19 : Int32 → Option (Int32)) => if q1 = 0 then (J19 0) else (J19 1)
set_option maxHeartbeats 4000000 in
set_option maxRecDepth 100000 in
theorem c_X2_saturdaysAt (G : GG) (l : Launch) (h : Nat) (hh : h < 15) (μ : Mem) (a1 : Int32) : CR G l yX2_saturdaysAt (.code yX2_saturdaysAt cX2_saturdaysAt 2 (some .int)) 3 [.ref (gad G (h + 1) 0), .int a1] μ (f_X2_saturdaysAt h μ a1) := by
  refine CR.of (own := "SaturdayKeep$House") (L0 := [some (.ref (gad G (h + 1) 0)), some (.int a1)]) rfl rfl rfl (Nat.le_of_ble_eq_true rfl) (fun C hl hC => ?_)
  subst hl
  delta f_X2_saturdaysAt
  refine aw_aload_n (pc := 0) (i := 0) hC dX2_saturdaysAt_0 rfl rfl ?_
  refine aw_iconst (pc := 1) (v := 0) hC dX2_saturdaysAt_1 ic0 ?_
  refine aw_aload_n (pc := 2) (i := 0) hC dX2_saturdaysAt_2 rfl rfl ?_
  refine aw_get (pc := 3) hC inX2 (vH (j := 0) hh (by decide)) rfl rfl 13 (by decide) kw212 rfl rfl dX2_saturdaysAt_3 ?_
  refine aw_iload_n (pc := 6) (i := 1) hC dX2_saturdaysAt_6 rfl rfl ?_
  refine aw_iadd (pc := 7) hC dX2_saturdaysAt_7 ?_
  refine aw_callVR (pc := 8) (As := [.int 0, .int ((μ (h + 1) 0 13) + a1)]) hC mb_X2_isSaturday kw334 (by decide) (c_X2_isSaturday G C.2.1 h (Nat.lt_of_lt_of_le hh (by decide)) μ 0 ((μ (h + 1) 0 13) + a1)) (vH (j := 0) hh (by decide)) rfl rfl rfl (Nat.le_of_ble_eq_true rfl) dX2_saturdaysAt_8 (fun q1 => ?_)
  refine aw_nmJ (fun (J19 : Int32 → Option (Int32)) => ∀ (x2 : Int32), AW G C (qR G C 0 0 μ) 0 0 2 μ 19 [some (.ref (gad G (h + 1) 0)), some (.int a1)] [.int x2] (J19 x2)) (fun x2 => ?_) (fun J19 hJ19 => ?_)
  · skip
    refine aw_aload_n (pc := 19) (i := 0) hC dX2_saturdaysAt_19 rfl rfl ?_
    refine aw_iconst (pc := 20) (v := 1) hC dX2_saturdaysAt_20 ic1 ?_
    refine aw_aload_n (pc := 21) (i := 0) hC dX2_saturdaysAt_21 rfl rfl ?_
    refine aw_get (pc := 22) hC inX2 (vH (j := 0) hh (by decide)) rfl rfl 13 (by decide) kw212 rfl rfl dX2_saturdaysAt_22 ?_
    refine aw_iload_n (pc := 25) (i := 1) hC dX2_saturdaysAt_25 rfl rfl ?_
    refine aw_iadd (pc := 26) hC dX2_saturdaysAt_26 ?_
    refine aw_callVR (pc := 27) (As := [.int 1, .int ((μ (h + 1) 0 13) + a1)]) hC mb_X2_isSaturday kw334 (by decide) (c_X2_isSaturday G C.2.1 h (Nat.lt_of_lt_of_le hh (by decide)) μ 1 ((μ (h + 1) 0 13) + a1)) (vH (j := 0) hh (by decide)) rfl rfl rfl (Nat.le_of_ble_eq_true rfl) dX2_saturdaysAt_27 (fun q3 => ?_)
    refine aw_if_eq (pc := 30) (tgt := 37) hC dX2_saturdaysAt_30 (by decide) (fun _ => ?_) (fun _ => ?_)
    · skip
      refine aw_iconst (pc := 37) (v := 0) hC dX2_saturdaysAt_37 ic0 ?_
      refine aw_iadd (pc := 38) hC dX2_saturdaysAt_38 ?_
      exact aw_iretR hC dX2_saturdaysAt_39
    · skip
      refine aw_iconst (pc := 33) (v := 1) hC dX2_saturdaysAt_33 ic1 ?_
      refine aw_goto (pc := 34) (tgt := 38) hC dX2_saturdaysAt_34 (by decide) ?_
      refine aw_iadd (pc := 38) hC dX2_saturdaysAt_38 ?_
      exact aw_iretR hC dX2_saturdaysAt_39
  · skip
    refine aw_if_eq (pc := 11) (tgt := 18) hC dX2_saturdaysAt_11 (by decide) (fun _ => ?_) (fun _ => ?_)
    · skip
      refine aw_iconst (pc := 18) (v := 0) hC dX2_saturdaysAt_18 ic0 ?_
      exact hJ19 0
    · skip
      refine aw_iconst (pc := 14) (v := 1) hC dX2_saturdaysAt_14 ic1 ?_
      refine aw_goto (pc := 15) (tgt := 19) hC dX2_saturdaysAt_15 (by decide) ?_
      exact hJ19 1
theorem dX2_copy_0 : decode cX2_copy 0 = .ok (.aload_n 0, 1) := by decide +kernel
theorem dX2_copy_1 : decode cX2_copy 1 = .ok (.getfield 12, 3) := by decide +kernel
theorem dX2_copy_4 : decode cX2_copy 4 = .ok (.aload_n 1, 1) := by decide +kernel
theorem dX2_copy_5 : decode cX2_copy 5 = .ok (.getfield 12, 3) := by decide +kernel
theorem dX2_copy_8 : decode cX2_copy 8 = .ok (.invokevirtual 55, 3) := by decide +kernel
theorem dX2_copy_11 : decode cX2_copy 11 = .ok (.aload_n 0, 1) := by decide +kernel
theorem dX2_copy_12 : decode cX2_copy 12 = .ok (.getfield 21, 3) := by decide +kernel
theorem dX2_copy_15 : decode cX2_copy 15 = .ok (.aload_n 1, 1) := by decide +kernel
theorem dX2_copy_16 : decode cX2_copy 16 = .ok (.getfield 21, 3) := by decide +kernel
theorem dX2_copy_19 : decode cX2_copy 19 = .ok (.invokevirtual 59, 3) := by decide +kernel
theorem dX2_copy_22 : decode cX2_copy 22 = .ok (.aload_n 0, 1) := by decide +kernel
theorem dX2_copy_23 : decode cX2_copy 23 = .ok (.getfield 28, 3) := by decide +kernel
theorem dX2_copy_26 : decode cX2_copy 26 = .ok (.aload_n 1, 1) := by decide +kernel
theorem dX2_copy_27 : decode cX2_copy 27 = .ok (.getfield 28, 3) := by decide +kernel
theorem dX2_copy_30 : decode cX2_copy 30 = .ok (.invokevirtual 62, 3) := by decide +kernel
theorem dX2_copy_33 : decode cX2_copy 33 = .ok (.aload_n 1, 1) := by decide +kernel
theorem dX2_copy_34 : decode cX2_copy 34 = .ok (.getfield 32, 3) := by decide +kernel
theorem dX2_copy_37 : decode cX2_copy 37 = .ok (.iconst 0, 1) := by decide +kernel
theorem dX2_copy_38 : decode cX2_copy 38 = .ok (.aload_n 0, 1) := by decide +kernel
theorem dX2_copy_39 : decode cX2_copy 39 = .ok (.getfield 32, 3) := by decide +kernel
theorem dX2_copy_42 : decode cX2_copy 42 = .ok (.iconst 0, 1) := by decide +kernel
theorem dX2_copy_43 : decode cX2_copy 43 = .ok (.bipush 8, 2) := by decide +kernel
theorem dX2_copy_45 : decode cX2_copy 45 = .ok (.invokestatic 65, 3) := by decide +kernel
theorem dX2_copy_48 : decode cX2_copy 48 = .ok (.aload_n 0, 1) := by decide +kernel
theorem dX2_copy_49 : decode cX2_copy 49 = .ok (.aload_n 1, 1) := by decide +kernel
theorem dX2_copy_50 : decode cX2_copy 50 = .ok (.getfield 39, 3) := by decide +kernel
theorem dX2_copy_53 : decode cX2_copy 53 = .ok (.putfield 39, 3) := by decide +kernel
theorem dX2_copy_56 : decode cX2_copy 56 = .ok (.aload_n 0, 1) := by decide +kernel
theorem dX2_copy_57 : decode cX2_copy 57 = .ok (.aload_n 1, 1) := by decide +kernel
theorem dX2_copy_58 : decode cX2_copy 58 = .ok (.getfield 43, 3) := by decide +kernel
theorem dX2_copy_61 : decode cX2_copy 61 = .ok (.putfield 43, 3) := by decide +kernel
theorem dX2_copy_64 : decode cX2_copy 64 = .ok (.aload_n 0, 1) := by decide +kernel
theorem dX2_copy_65 : decode cX2_copy 65 = .ok (.aload_n 1, 1) := by decide +kernel
theorem dX2_copy_66 : decode cX2_copy 66 = .ok (.getfield 71, 3) := by decide +kernel
theorem dX2_copy_69 : decode cX2_copy 69 = .ok (.putfield 71, 3) := by decide +kernel
theorem dX2_copy_72 : decode cX2_copy 72 = .ok (.aload_n 0, 1) := by decide +kernel
theorem dX2_copy_73 : decode cX2_copy 73 = .ok (.aload_n 1, 1) := by decide +kernel
theorem dX2_copy_74 : decode cX2_copy 74 = .ok (.getfield 74, 3) := by decide +kernel
theorem dX2_copy_77 : decode cX2_copy 77 = .ok (.putfield 74, 3) := by decide +kernel
theorem dX2_copy_80 : decode cX2_copy 80 = .ok (.aload_n 0, 1) := by decide +kernel
theorem dX2_copy_81 : decode cX2_copy 81 = .ok (.aload_n 1, 1) := by decide +kernel
theorem dX2_copy_82 : decode cX2_copy 82 = .ok (.getfield 46, 3) := by decide +kernel
theorem dX2_copy_85 : decode cX2_copy 85 = .ok (.putfield 46, 3) := by decide +kernel
theorem dX2_copy_88 : decode cX2_copy 88 = .ok (.aload_n 0, 1) := by decide +kernel
theorem dX2_copy_89 : decode cX2_copy 89 = .ok (.aload_n 1, 1) := by decide +kernel
theorem dX2_copy_90 : decode cX2_copy 90 = .ok (.getfield 49, 3) := by decide +kernel
theorem dX2_copy_93 : decode cX2_copy 93 = .ok (.putfield 49, 3) := by decide +kernel
theorem dX2_copy_96 : decode cX2_copy 96 = .ok (.aload_n 0, 1) := by decide +kernel
theorem dX2_copy_97 : decode cX2_copy 97 = .ok (.aload_n 1, 1) := by decide +kernel
theorem dX2_copy_98 : decode cX2_copy 98 = .ok (.getfield 77, 3) := by decide +kernel
theorem dX2_copy_101 : decode cX2_copy 101 = .ok (.putfield 77, 3) := by decide +kernel
theorem dX2_copy_104 : decode cX2_copy 104 = .ok (.aload_n 0, 1) := by decide +kernel
theorem dX2_copy_105 : decode cX2_copy 105 = .ok (.aload_n 1, 1) := by decide +kernel
theorem dX2_copy_106 : decode cX2_copy 106 = .ok (.getfield 80, 3) := by decide +kernel
theorem dX2_copy_109 : decode cX2_copy 109 = .ok (.putfield 80, 3) := by decide +kernel
theorem dX2_copy_112 : decode cX2_copy 112 = .ok (.aload_n 0, 1) := by decide +kernel
theorem dX2_copy_113 : decode cX2_copy 113 = .ok (.aload_n 1, 1) := by decide +kernel
theorem dX2_copy_114 : decode cX2_copy 114 = .ok (.getfield 83, 3) := by decide +kernel
theorem dX2_copy_117 : decode cX2_copy 117 = .ok (.putfield 83, 3) := by decide +kernel
theorem dX2_copy_120 : decode cX2_copy 120 = .ok (.aload_n 0, 1) := by decide +kernel
theorem dX2_copy_121 : decode cX2_copy 121 = .ok (.aload_n 1, 1) := by decide +kernel
theorem dX2_copy_122 : decode cX2_copy 122 = .ok (.getfield 86, 3) := by decide +kernel
theorem dX2_copy_125 : decode cX2_copy 125 = .ok (.putfield 86, 3) := by decide +kernel
theorem dX2_copy_128 : decode cX2_copy 128 = .ok (.aload_n 0, 1) := by decide +kernel
theorem dX2_copy_129 : decode cX2_copy 129 = .ok (.aload_n 1, 1) := by decide +kernel
theorem dX2_copy_130 : decode cX2_copy 130 = .ok (.getfield 52, 3) := by decide +kernel
theorem dX2_copy_133 : decode cX2_copy 133 = .ok (.putfield 52, 3) := by decide +kernel
theorem dX2_copy_136 : decode cX2_copy 136 = .ok (.aload_n 0, 1) := by decide +kernel
theorem dX2_copy_137 : decode cX2_copy 137 = .ok (.aload_n 1, 1) := by decide +kernel
theorem dX2_copy_138 : decode cX2_copy 138 = .ok (.getfield 89, 3) := by decide +kernel
theorem dX2_copy_141 : decode cX2_copy 141 = .ok (.putfield 89, 3) := by decide +kernel
theorem dX2_copy_144 : decode cX2_copy 144 = .ok (.return_, 1) := by decide +kernel
def f_X2_copy (h h1 : Nat) (μ : Mem) : Option (Mem) := (f_X1_copy h h1 μ).bind fun (q1 : Mem) => (f_X0_copy h h1 q1).bind fun (q2 : Mem) => (f_X4_copy h h1 q2).bind fun (q3 : Mem) => cpx 0 0 8 8 8 (nm (cpm q3 (h1 + 1) 10 (Int32.toNatClampNeg 0) (h + 1) 10 (Int32.toNatClampNeg 0) (Int32.toNatClampNeg 8)) fun (μ4 : Mem) => nm (upm μ4 (h + 1) 0 5 (μ4 (h1 + 1) 0 5)) fun (μ5 : Mem) => nm (upm μ5 (h + 1) 0 6 (μ5 (h1 + 1) 0 6)) fun (μ6 : Mem) => nm (upm μ6 (h + 1) 0 7 (μ6 (h1 + 1) 0 7)) fun (μ7 : Mem) => nm (upm μ7 (h + 1) 0 8 (μ7 (h1 + 1) 0 8)) fun (μ8 : Mem) => nm (upm μ8 (h + 1) 0 9 (μ8 (h1 + 1) 0 9)) fun (μ9 : Mem) => nm (upm μ9 (h + 1) 0 10 (μ9 (h1 + 1) 0 10)) fun (μ10 : Mem) => nm (upm μ10 (h + 1) 0 11 (μ10 (h1 + 1) 0 11)) fun (μ11 : Mem) => nm (upm μ11 (h + 1) 0 12 (μ11 (h1 + 1) 0 12)) fun (μ12 : Mem) => nm (upm μ12 (h + 1) 0 13 (μ12 (h1 + 1) 0 13)) fun (μ13 : Mem) => nm (upm μ13 (h + 1) 0 14 (μ13 (h1 + 1) 0 14)) fun (μ14 : Mem) => nm (upm μ14 (h + 1) 0 15 (μ14 (h1 + 1) 0 15)) fun (μ15 : Mem) => nm (upm μ15 (h + 1) 0 16 (μ15 (h1 + 1) 0 16)) fun (μ16 : Mem) => some μ16)
set_option maxHeartbeats 4000000 in
set_option maxRecDepth 100000 in
theorem c_X2_copy (G : GG) (l : Launch) (h h1 : Nat) (hh : h < 15) (hh1 : h1 < 15) (μ : Mem) : CV G l yX2_copy (.code yX2_copy cX2_copy 2 none) 3 [.ref (gad G (h + 1) 0), .ref (gad G (h1 + 1) 0)] μ (f_X2_copy h h1 μ) := by
  refine CV.of (own := "SaturdayKeep$House") (L0 := [some (.ref (gad G (h + 1) 0)), some (.ref (gad G (h1 + 1) 0))]) rfl rfl rfl (Nat.le_of_ble_eq_true rfl) (fun C hl hC => ?_)
  subst hl
  delta f_X2_copy
  refine aw_aload_n (pc := 0) (i := 0) hC dX2_copy_0 rfl rfl ?_
  refine aw_get (pc := 1) hC inX2 (vH (j := 0) hh (by decide)) rfl rfl 0 (by decide) kw184 rfl rfl dX2_copy_1 ?_
  refine aw_aload_n (pc := 4) (i := 1) hC dX2_copy_4 rfl rfl ?_
  refine aw_get (pc := 5) hC inX2 (vH (j := 0) hh1 (by decide)) rfl rfl 0 (by decide) kw184 rfl rfl dX2_copy_5 ?_
  refine aw_callVV (pc := 8) (As := [.ref (gad G (h1 + 1) 1)]) hC mb_X1_copy kw350 (by decide) (c_X1_copy G C.2.1 h h1 (Nat.lt_of_lt_of_le hh (by decide)) (Nat.lt_of_lt_of_le hh1 (by decide)) μ ) (vH (j := 1) hh (by decide)) rfl rfl rfl (Nat.le_of_ble_eq_true rfl) dX2_copy_8 (fun q1 => ?_)
  refine aw_aload_n (pc := 11) (i := 0) hC dX2_copy_11 rfl rfl ?_
  refine aw_get (pc := 12) hC inX2 (vH (j := 0) hh (by decide)) rfl rfl 1 (by decide) kw187 rfl rfl dX2_copy_12 ?_
  refine aw_aload_n (pc := 15) (i := 1) hC dX2_copy_15 rfl rfl ?_
  refine aw_get (pc := 16) hC inX2 (vH (j := 0) hh1 (by decide)) rfl rfl 1 (by decide) kw187 rfl rfl dX2_copy_16 ?_
  refine aw_callVV (pc := 19) (As := [.ref (gad G (h1 + 1) 5)]) hC mb_X0_copy kw357 (by decide) (c_X0_copy G C.2.1 h h1 (Nat.lt_of_lt_of_le hh (by decide)) (Nat.lt_of_lt_of_le hh1 (by decide)) q1 ) (vH (j := 5) hh (by decide)) rfl rfl rfl (Nat.le_of_ble_eq_true rfl) dX2_copy_19 (fun q2 => ?_)
  refine aw_aload_n (pc := 22) (i := 0) hC dX2_copy_22 rfl rfl ?_
  refine aw_get (pc := 23) hC inX2 (vH (j := 0) hh (by decide)) rfl rfl 2 (by decide) kw189 rfl rfl dX2_copy_23 ?_
  refine aw_aload_n (pc := 26) (i := 1) hC dX2_copy_26 rfl rfl ?_
  refine aw_get (pc := 27) hC inX2 (vH (j := 0) hh1 (by decide)) rfl rfl 2 (by decide) kw189 rfl rfl dX2_copy_27 ?_
  refine aw_callVV (pc := 30) (As := [.ref (gad G (h1 + 1) 7)]) hC mb_X4_copy kw362 (by decide) (c_X4_copy G C.2.1 h h1 (Nat.lt_of_lt_of_le hh (by decide)) (Nat.lt_of_lt_of_le hh1 (by decide)) q2 ) (vH (j := 7) hh (by decide)) rfl rfl rfl (Nat.le_of_ble_eq_true rfl) dX2_copy_30 (fun q3 => ?_)
  refine aw_aload_n (pc := 33) (i := 1) hC dX2_copy_33 rfl rfl ?_
  refine aw_get (pc := 34) hC inX2 (vH (j := 0) hh1 (by decide)) rfl rfl 3 (by decide) kw191 rfl rfl dX2_copy_34 ?_
  refine aw_iconst (pc := 37) (v := 0) hC dX2_copy_37 ic0 ?_
  refine aw_aload_n (pc := 38) (i := 0) hC dX2_copy_38 rfl rfl ?_
  refine aw_get (pc := 39) hC inX2 (vH (j := 0) hh (by decide)) rfl rfl 3 (by decide) kw191 rfl rfl dX2_copy_39 ?_
  refine aw_iconst (pc := 42) (v := 0) hC dX2_copy_42 ic0 ?_
  refine aw_bipush (pc := 43) (v := 8) hC dX2_copy_43 bc8 ?_
  refine aw_copyN (pc := 45) hC kw373 kw356 kw355 kw17 (vH (j := 10) hh1 (by decide)) (vH (j := 10) hh (by decide)) rfl (fun _ => rfl) (by decide) (Nat.le_of_ble_eq_true rfl) dX2_copy_45 (fun μ4 => ?_)
  refine aw_aload_n (pc := 48) (i := 0) hC dX2_copy_48 rfl rfl ?_
  refine aw_aload_n (pc := 49) (i := 1) hC dX2_copy_49 rfl rfl ?_
  refine aw_get (pc := 50) hC inX2 (vH (j := 0) hh1 (by decide)) rfl rfl 5 (by decide) kw193 rfl rfl dX2_copy_50 ?_
  refine aw_putIN (pc := 53) hC inX2 (vH (j := 0) hh (by decide)) rfl rfl 5 (by decide) kw193 rfl tyX2 tyX2_ok nmX2 rfl rfl (Nat.le_of_ble_eq_true rfl) rfl dX2_copy_53 (fun μ5 => ?_)
  refine aw_aload_n (pc := 56) (i := 0) hC dX2_copy_56 rfl rfl ?_
  refine aw_aload_n (pc := 57) (i := 1) hC dX2_copy_57 rfl rfl ?_
  refine aw_get (pc := 58) hC inX2 (vH (j := 0) hh1 (by decide)) rfl rfl 6 (by decide) kw194 rfl rfl dX2_copy_58 ?_
  refine aw_putIN (pc := 61) hC inX2 (vH (j := 0) hh (by decide)) rfl rfl 6 (by decide) kw194 rfl tyX2 tyX2_ok nmX2 rfl rfl (Nat.le_of_ble_eq_true rfl) rfl dX2_copy_61 (fun μ6 => ?_)
  refine aw_aload_n (pc := 64) (i := 0) hC dX2_copy_64 rfl rfl ?_
  refine aw_aload_n (pc := 65) (i := 1) hC dX2_copy_65 rfl rfl ?_
  refine aw_get (pc := 66) hC inX2 (vH (j := 0) hh1 (by decide)) rfl rfl 7 (by decide) kw195 rfl rfl dX2_copy_66 ?_
  refine aw_putIN (pc := 69) hC inX2 (vH (j := 0) hh (by decide)) rfl rfl 7 (by decide) kw195 rfl tyX2 tyX2_ok nmX2 rfl rfl (Nat.le_of_ble_eq_true rfl) rfl dX2_copy_69 (fun μ7 => ?_)
  refine aw_aload_n (pc := 72) (i := 0) hC dX2_copy_72 rfl rfl ?_
  refine aw_aload_n (pc := 73) (i := 1) hC dX2_copy_73 rfl rfl ?_
  refine aw_get (pc := 74) hC inX2 (vH (j := 0) hh1 (by decide)) rfl rfl 8 (by decide) kw198 rfl rfl dX2_copy_74 ?_
  refine aw_putIN (pc := 77) hC inX2 (vH (j := 0) hh (by decide)) rfl rfl 8 (by decide) kw198 rfl tyX2 tyX2_ok nmX2 rfl rfl (Nat.le_of_ble_eq_true rfl) rfl dX2_copy_77 (fun μ8 => ?_)
  refine aw_aload_n (pc := 80) (i := 0) hC dX2_copy_80 rfl rfl ?_
  refine aw_aload_n (pc := 81) (i := 1) hC dX2_copy_81 rfl rfl ?_
  refine aw_get (pc := 82) hC inX2 (vH (j := 0) hh1 (by decide)) rfl rfl 9 (by decide) kw201 rfl rfl dX2_copy_82 ?_
  refine aw_putIN (pc := 85) hC inX2 (vH (j := 0) hh (by decide)) rfl rfl 9 (by decide) kw201 rfl tyX2 tyX2_ok nmX2 rfl rfl (Nat.le_of_ble_eq_true rfl) rfl dX2_copy_85 (fun μ9 => ?_)
  refine aw_aload_n (pc := 88) (i := 0) hC dX2_copy_88 rfl rfl ?_
  refine aw_aload_n (pc := 89) (i := 1) hC dX2_copy_89 rfl rfl ?_
  refine aw_get (pc := 90) hC inX2 (vH (j := 0) hh1 (by decide)) rfl rfl 10 (by decide) kw204 rfl rfl dX2_copy_90 ?_
  refine aw_putIN (pc := 93) hC inX2 (vH (j := 0) hh (by decide)) rfl rfl 10 (by decide) kw204 rfl tyX2 tyX2_ok nmX2 rfl rfl (Nat.le_of_ble_eq_true rfl) rfl dX2_copy_93 (fun μ10 => ?_)
  refine aw_aload_n (pc := 96) (i := 0) hC dX2_copy_96 rfl rfl ?_
  refine aw_aload_n (pc := 97) (i := 1) hC dX2_copy_97 rfl rfl ?_
  refine aw_get (pc := 98) hC inX2 (vH (j := 0) hh1 (by decide)) rfl rfl 11 (by decide) kw207 rfl rfl dX2_copy_98 ?_
  refine aw_putIN (pc := 101) hC inX2 (vH (j := 0) hh (by decide)) rfl rfl 11 (by decide) kw207 rfl tyX2 tyX2_ok nmX2 rfl rfl (Nat.le_of_ble_eq_true rfl) rfl dX2_copy_101 (fun μ11 => ?_)
  refine aw_aload_n (pc := 104) (i := 0) hC dX2_copy_104 rfl rfl ?_
  refine aw_aload_n (pc := 105) (i := 1) hC dX2_copy_105 rfl rfl ?_
  refine aw_get (pc := 106) hC inX2 (vH (j := 0) hh1 (by decide)) rfl rfl 12 (by decide) kw209 rfl rfl dX2_copy_106 ?_
  refine aw_putIN (pc := 109) hC inX2 (vH (j := 0) hh (by decide)) rfl rfl 12 (by decide) kw209 rfl tyX2 tyX2_ok nmX2 rfl rfl (Nat.le_of_ble_eq_true rfl) rfl dX2_copy_109 (fun μ12 => ?_)
  refine aw_aload_n (pc := 112) (i := 0) hC dX2_copy_112 rfl rfl ?_
  refine aw_aload_n (pc := 113) (i := 1) hC dX2_copy_113 rfl rfl ?_
  refine aw_get (pc := 114) hC inX2 (vH (j := 0) hh1 (by decide)) rfl rfl 13 (by decide) kw212 rfl rfl dX2_copy_114 ?_
  refine aw_putIN (pc := 117) hC inX2 (vH (j := 0) hh (by decide)) rfl rfl 13 (by decide) kw212 rfl tyX2 tyX2_ok nmX2 rfl rfl (Nat.le_of_ble_eq_true rfl) rfl dX2_copy_117 (fun μ13 => ?_)
  refine aw_aload_n (pc := 120) (i := 0) hC dX2_copy_120 rfl rfl ?_
  refine aw_aload_n (pc := 121) (i := 1) hC dX2_copy_121 rfl rfl ?_
  refine aw_get (pc := 122) hC inX2 (vH (j := 0) hh1 (by decide)) rfl rfl 14 (by decide) kw215 rfl rfl dX2_copy_122 ?_
  refine aw_putIN (pc := 125) hC inX2 (vH (j := 0) hh (by decide)) rfl rfl 14 (by decide) kw215 rfl tyX2 tyX2_ok nmX2 rfl rfl (Nat.le_of_ble_eq_true rfl) rfl dX2_copy_125 (fun μ14 => ?_)
  refine aw_aload_n (pc := 128) (i := 0) hC dX2_copy_128 rfl rfl ?_
  refine aw_aload_n (pc := 129) (i := 1) hC dX2_copy_129 rfl rfl ?_
  refine aw_get (pc := 130) hC inX2 (vH (j := 0) hh1 (by decide)) rfl rfl 15 (by decide) kw217 rfl rfl dX2_copy_130 ?_
  refine aw_putIN (pc := 133) hC inX2 (vH (j := 0) hh (by decide)) rfl rfl 15 (by decide) kw217 rfl tyX2 tyX2_ok nmX2 rfl rfl (Nat.le_of_ble_eq_true rfl) rfl dX2_copy_133 (fun μ15 => ?_)
  refine aw_aload_n (pc := 136) (i := 0) hC dX2_copy_136 rfl rfl ?_
  refine aw_aload_n (pc := 137) (i := 1) hC dX2_copy_137 rfl rfl ?_
  refine aw_get (pc := 138) hC inX2 (vH (j := 0) hh1 (by decide)) rfl rfl 16 (by decide) kw219 rfl rfl dX2_copy_138 ?_
  refine aw_putIN (pc := 141) hC inX2 (vH (j := 0) hh (by decide)) rfl rfl 16 (by decide) kw219 rfl tyX2 tyX2_ok nmX2 rfl rfl (Nat.le_of_ble_eq_true rfl) rfl dX2_copy_141 (fun μ16 => ?_)
  exact aw_vret hC dX2_copy_144
theorem dX2_build_0 : decode cX2_build 0 = .ok (.aload_n 0, 1) := by decide +kernel
theorem dX2_build_1 : decode cX2_build 1 = .ok (.getfield 46, 3) := by decide +kernel
theorem dX2_build_4 : decode cX2_build 4 = .ok (.aload_n 0, 1) := by decide +kernel
theorem dX2_build_5 : decode cX2_build 5 = .ok (.getfield 49, 3) := by decide +kernel
theorem dX2_build_8 : decode cX2_build 8 = .ok (.invokestatic 158, 3) := by decide +kernel
theorem dX2_build_11 : decode cX2_build 11 = .ok (.istore_n 1, 1) := by decide +kernel
theorem dX2_build_12 : decode cX2_build 12 = .ok (.aload_n 0, 1) := by decide +kernel
theorem dX2_build_13 : decode cX2_build 13 = .ok (.sipush 9999, 3) := by decide +kernel
theorem dX2_build_16 : decode cX2_build 16 = .ok (.aload_n 0, 1) := by decide +kernel
theorem dX2_build_17 : decode cX2_build 17 = .ok (.getfield 77, 3) := by decide +kernel
theorem dX2_build_20 : decode cX2_build 20 = .ok (.iload_n 1, 1) := by decide +kernel
theorem dX2_build_21 : decode cX2_build 21 = .ok (.iadd, 1) := by decide +kernel
theorem dX2_build_22 : decode cX2_build 22 = .ok (.invokestatic 158, 3) := by decide +kernel
theorem dX2_build_25 : decode cX2_build 25 = .ok (.putfield 77, 3) := by decide +kernel
theorem dX2_build_28 : decode cX2_build 28 = .ok (.aload_n 0, 1) := by decide +kernel
theorem dX2_build_29 : decode cX2_build 29 = .ok (.dup, 1) := by decide +kernel
theorem dX2_build_30 : decode cX2_build 30 = .ok (.getfield 49, 3) := by decide +kernel
theorem dX2_build_33 : decode cX2_build 33 = .ok (.iload_n 1, 1) := by decide +kernel
theorem dX2_build_34 : decode cX2_build 34 = .ok (.isub, 1) := by decide +kernel
theorem dX2_build_35 : decode cX2_build 35 = .ok (.putfield 49, 3) := by decide +kernel
theorem dX2_build_38 : decode cX2_build 38 = .ok (.return_, 1) := by decide +kernel
def f_X2_build (h : Nat) (μ : Mem) : Option (Mem) := nm (jmin (μ (h + 1) 0 9) (μ (h + 1) 0 10)) fun (x1 : Int32) => nm (upm μ (h + 1) 0 11 (jmin 9999 ((μ (h + 1) 0 11) + x1))) fun (μ2 : Mem) => nm (upm μ2 (h + 1) 0 10 ((μ2 (h + 1) 0 10) - x1)) fun (μ3 : Mem) => some μ3
set_option maxHeartbeats 4000000 in
set_option maxRecDepth 100000 in
theorem c_X2_build (G : GG) (l : Launch) (h : Nat) (hh : h < 15) (μ : Mem) : CV G l yX2_build (.code yX2_build cX2_build 2 none) 2 [.ref (gad G (h + 1) 0)] μ (f_X2_build h μ) := by
  refine CV.of (own := "SaturdayKeep$House") (L0 := [some (.ref (gad G (h + 1) 0)), none]) rfl rfl rfl (Nat.le_of_ble_eq_true rfl) (fun C hl hC => ?_)
  subst hl
  delta f_X2_build
  refine aw_aload_n (pc := 0) (i := 0) hC dX2_build_0 rfl rfl ?_
  refine aw_get (pc := 1) hC inX2 (vH (j := 0) hh (by decide)) rfl rfl 9 (by decide) kw201 rfl rfl dX2_build_1 ?_
  refine aw_aload_n (pc := 4) (i := 0) hC dX2_build_4 rfl rfl ?_
  refine aw_get (pc := 5) hC inX2 (vH (j := 0) hh (by decide)) rfl rfl 10 (by decide) kw204 rfl rfl dX2_build_5 ?_
  refine aw_mmin (pc := 8) hC kw378 kw367 kw12 kw368 (by decide) (Nat.le_of_ble_eq_true rfl) dX2_build_8 ?_
  refine aw_nmI (fun x1 _ => ?_)
  refine aw_istore_n (pc := 11) (i := 1) hC dX2_build_11 rfl rfl (by decide) ?_
  refine aw_aload_n (pc := 12) (i := 0) hC dX2_build_12 rfl rfl ?_
  refine aw_sipush (pc := 13) (v := 9999) hC dX2_build_13 sc9999 ?_
  refine aw_aload_n (pc := 16) (i := 0) hC dX2_build_16 rfl rfl ?_
  refine aw_get (pc := 17) hC inX2 (vH (j := 0) hh (by decide)) rfl rfl 11 (by decide) kw207 rfl rfl dX2_build_17 ?_
  refine aw_iload_n (pc := 20) (i := 1) hC dX2_build_20 rfl rfl ?_
  refine aw_iadd (pc := 21) hC dX2_build_21 ?_
  refine aw_mmin (pc := 22) hC kw378 kw367 kw12 kw368 (by decide) (Nat.le_of_ble_eq_true rfl) dX2_build_22 ?_
  refine aw_putIN (pc := 25) hC inX2 (vH (j := 0) hh (by decide)) rfl rfl 11 (by decide) kw207 rfl tyX2 tyX2_ok nmX2 rfl rfl (Nat.le_of_ble_eq_true rfl) rfl dX2_build_25 (fun μ2 => ?_)
  refine aw_aload_n (pc := 28) (i := 0) hC dX2_build_28 rfl rfl ?_
  refine aw_dup (pc := 29) hC dX2_build_29 rfl ?_
  refine aw_get (pc := 30) hC inX2 (vH (j := 0) hh (by decide)) rfl rfl 10 (by decide) kw204 rfl rfl dX2_build_30 ?_
  refine aw_iload_n (pc := 33) (i := 1) hC dX2_build_33 rfl rfl ?_
  refine aw_isub (pc := 34) hC dX2_build_34 ?_
  refine aw_putIN (pc := 35) hC inX2 (vH (j := 0) hh (by decide)) rfl rfl 10 (by decide) kw204 rfl tyX2 tyX2_ok nmX2 rfl rfl (Nat.le_of_ble_eq_true rfl) rfl dX2_build_35 (fun μ3 => ?_)
  exact aw_vret hC dX2_build_38
theorem dX2_sight_0 : decode cX2_sight 0 = .ok (.iconst 1, 1) := by decide +kernel
theorem dX2_sight_1 : decode cX2_sight 1 = .ok (.iload_n 1, 1) := by decide +kernel
theorem dX2_sight_2 : decode cX2_sight 2 = .ok (.ishl, 1) := by decide +kernel
theorem dX2_sight_3 : decode cX2_sight 3 = .ok (.iload_n 1, 1) := by decide +kernel
theorem dX2_sight_4 : decode cX2_sight 4 = .ok (.invokestatic 100, 3) := by decide +kernel
theorem dX2_sight_7 : decode cX2_sight 7 = .ok (.ifCond .eq 12, 3) := by decide +kernel
theorem dX2_sight_10 : decode cX2_sight 10 = .ok (.aload_n 0, 1) := by decide +kernel
theorem dX2_sight_11 : decode cX2_sight 11 = .ok (.getfield 32, 3) := by decide +kernel
theorem dX2_sight_14 : decode cX2_sight 14 = .ok (.iload_n 1, 1) := by decide +kernel
theorem dX2_sight_15 : decode cX2_sight 15 = .ok (.iaload, 1) := by decide +kernel
theorem dX2_sight_16 : decode cX2_sight 16 = .ok (.goto 4, 3) := by decide +kernel
theorem dX2_sight_19 : decode cX2_sight 19 = .ok (.iconst 0, 1) := by decide +kernel
theorem dX2_sight_20 : decode cX2_sight 20 = .ok (.ior, 1) := by decide +kernel
theorem dX2_sight_21 : decode cX2_sight 21 = .ok (.istore_n 3, 1) := by decide +kernel
theorem dX2_sight_22 : decode cX2_sight 22 = .ok (.iload_n 2, 1) := by decide +kernel
theorem dX2_sight_23 : decode cX2_sight 23 = .ok (.ifCond .eq 26, 3) := by decide +kernel
theorem dX2_sight_26 : decode cX2_sight 26 = .ok (.iload_n 3, 1) := by decide +kernel
theorem dX2_sight_27 : decode cX2_sight 27 = .ok (.iconst 1, 1) := by decide +kernel
theorem dX2_sight_28 : decode cX2_sight 28 = .ok (.iload_n 1, 1) := by decide +kernel
theorem dX2_sight_29 : decode cX2_sight 29 = .ok (.iconst 1, 1) := by decide +kernel
theorem dX2_sight_30 : decode cX2_sight 30 = .ok (.iadd, 1) := by decide +kernel
theorem dX2_sight_31 : decode cX2_sight 31 = .ok (.bipush 8, 2) := by decide +kernel
theorem dX2_sight_33 : decode cX2_sight 33 = .ok (.irem, 1) := by decide +kernel
theorem dX2_sight_34 : decode cX2_sight 34 = .ok (.ishl, 1) := by decide +kernel
theorem dX2_sight_35 : decode cX2_sight 35 = .ok (.iconst 1, 1) := by decide +kernel
theorem dX2_sight_36 : decode cX2_sight 36 = .ok (.iload_n 1, 1) := by decide +kernel
theorem dX2_sight_37 : decode cX2_sight 37 = .ok (.bipush 8, 2) := by decide +kernel
theorem dX2_sight_39 : decode cX2_sight 39 = .ok (.iadd, 1) := by decide +kernel
theorem dX2_sight_40 : decode cX2_sight 40 = .ok (.iconst 1, 1) := by decide +kernel
theorem dX2_sight_41 : decode cX2_sight 41 = .ok (.isub, 1) := by decide +kernel
theorem dX2_sight_42 : decode cX2_sight 42 = .ok (.bipush 8, 2) := by decide +kernel
theorem dX2_sight_44 : decode cX2_sight 44 = .ok (.irem, 1) := by decide +kernel
theorem dX2_sight_45 : decode cX2_sight 45 = .ok (.ishl, 1) := by decide +kernel
theorem dX2_sight_46 : decode cX2_sight 46 = .ok (.ior, 1) := by decide +kernel
theorem dX2_sight_47 : decode cX2_sight 47 = .ok (.ior, 1) := by decide +kernel
theorem dX2_sight_48 : decode cX2_sight 48 = .ok (.istore_n 3, 1) := by decide +kernel
theorem dX2_sight_49 : decode cX2_sight 49 = .ok (.iload_n 3, 1) := by decide +kernel
theorem dX2_sight_50 : decode cX2_sight 50 = .ok (.ireturn, 1) := by decide +kernel
def f_X2_sight (h : Nat) (μ : Mem) (a1 : Int32) (a2 : Int32) : Option (Int32) := (f_X9_isRoom a1).bind fun (q1 : Int32) => nm (fun (x2 : Int32) => if a2 = 0 then (some ((jshl 1 a1) ||| x2)) else (nm (((jshl 1 a1) ||| x2) ||| ((jshl 1 (jrem (a1 + 1) 8)) ||| (jshl 1 (jrem ((a1 + 8) - 1) 8)))) fun (x3 : Int32) => some x3)) fun (J20 : Int32 → Option (Int32)) => if q1 = 0 then (J20 0) else (ix a1 8 (J20 (μ (h + 1) 10 a1.toNatClampNeg)))
set_option maxHeartbeats 4000000 in
set_option maxRecDepth 100000 in
theorem c_X2_sight (G : GG) (l : Launch) (h : Nat) (hh : h < 15) (μ : Mem) (a1 : Int32) (a2 : Int32) : CR G l yX2_sight (.code yX2_sight cX2_sight 4 (some .int)) 2 [.ref (gad G (h + 1) 0), .int a1, .int a2] μ (f_X2_sight h μ a1 a2) := by
  refine CR.of (own := "SaturdayKeep$House") (L0 := [some (.ref (gad G (h + 1) 0)), some (.int a1), some (.int a2), none]) rfl rfl rfl (Nat.le_of_ble_eq_true rfl) (fun C hl hC => ?_)
  subst hl
  delta f_X2_sight
  refine aw_iconst (pc := 0) (v := 1) hC dX2_sight_0 ic1 ?_
  refine aw_iload_n (pc := 1) (i := 1) hC dX2_sight_1 rfl rfl ?_
  refine aw_ishl (pc := 2) hC dX2_sight_2 ?_
  refine aw_iload_n (pc := 3) (i := 1) hC dX2_sight_3 rfl rfl ?_
  refine aw_callNR (pc := 4) (As := [.int a1]) hC ms_X9_isRoom kw405 (by decide) (c_X9_isRoom G C.2.1   μ a1) rfl (Nat.le_of_ble_eq_true rfl) dX2_sight_4 (fun q1 => ?_)
  refine aw_nmJ (fun (J20 : Int32 → Option (Int32)) => ∀ (x2 : Int32), AW G C (qR G C 0 0 μ) 0 0 4 μ 20 [none, some (.int a1), some (.int a2), none] [.int x2, .int (jshl 1 a1)] (J20 x2)) (fun x2 => ?_) (fun J20 hJ20 => ?_)
  · skip
    refine aw_ior (pc := 20) hC dX2_sight_20 ?_
    refine aw_istore_n (pc := 21) (i := 3) hC dX2_sight_21 rfl rfl (by decide) ?_
    refine aw_iload_n (pc := 22) (i := 2) hC dX2_sight_22 rfl rfl ?_
    refine aw_if_eq (pc := 23) (tgt := 49) hC dX2_sight_23 (by decide) (fun _ => ?_) (fun _ => ?_)
    · skip
      refine aw_iload_n (pc := 49) (i := 3) hC dX2_sight_49 rfl rfl ?_
      exact aw_iretR hC dX2_sight_50
    · skip
      refine aw_iload_n (pc := 26) (i := 3) hC dX2_sight_26 rfl rfl ?_
      refine aw_iconst (pc := 27) (v := 1) hC dX2_sight_27 ic1 ?_
      refine aw_iload_n (pc := 28) (i := 1) hC dX2_sight_28 rfl rfl ?_
      refine aw_iconst (pc := 29) (v := 1) hC dX2_sight_29 ic1 ?_
      refine aw_iadd (pc := 30) hC dX2_sight_30 ?_
      refine aw_bipush (pc := 31) (v := 8) hC dX2_sight_31 bc8 ?_
      refine aw_irem (pc := 33) hC dX2_sight_33 (by decide) ?_
      refine aw_ishl (pc := 34) hC dX2_sight_34 ?_
      refine aw_iconst (pc := 35) (v := 1) hC dX2_sight_35 ic1 ?_
      refine aw_iload_n (pc := 36) (i := 1) hC dX2_sight_36 rfl rfl ?_
      refine aw_bipush (pc := 37) (v := 8) hC dX2_sight_37 bc8 ?_
      refine aw_iadd (pc := 39) hC dX2_sight_39 ?_
      refine aw_iconst (pc := 40) (v := 1) hC dX2_sight_40 ic1 ?_
      refine aw_isub (pc := 41) hC dX2_sight_41 ?_
      refine aw_bipush (pc := 42) (v := 8) hC dX2_sight_42 bc8 ?_
      refine aw_irem (pc := 44) hC dX2_sight_44 (by decide) ?_
      refine aw_ishl (pc := 45) hC dX2_sight_45 ?_
      refine aw_ior (pc := 46) hC dX2_sight_46 ?_
      refine aw_ior (pc := 47) hC dX2_sight_47 ?_
      refine aw_nmI (fun x3 _ => ?_)
      refine aw_istore_n (pc := 48) (i := 3) hC dX2_sight_48 rfl rfl (by decide) ?_
      refine aw_iload_n (pc := 49) (i := 3) hC dX2_sight_49 rfl rfl ?_
      exact aw_iretR hC dX2_sight_50
  · skip
    refine aw_if_eq (pc := 7) (tgt := 19) hC dX2_sight_7 (by decide) (fun _ => ?_) (fun _ => ?_)
    · skip
      refine aw_iconst (pc := 19) (v := 0) hC dX2_sight_19 ic0 ?_
      exact aw_drop [0] (hJ20 0)
    · skip
      refine aw_aload_n (pc := 10) (i := 0) hC dX2_sight_10 rfl rfl ?_
      refine aw_get (pc := 11) hC inX2 (vH (j := 0) hh (by decide)) rfl rfl 3 (by decide) kw191 rfl rfl dX2_sight_11 ?_
      refine aw_iload_n (pc := 14) (i := 1) hC dX2_sight_14 rfl rfl ?_
      refine aw_iaload (pc := 15) hC (vH (j := 10) hh (by decide)) rfl dX2_sight_15 ?_
      refine aw_goto (pc := 16) (tgt := 20) hC dX2_sight_16 (by decide) ?_
      exact aw_drop [0] (hJ20 (μ (h + 1) 10 a1.toNatClampNeg))
theorem dX2_spies_0 : decode cX2_spies 0 = .ok (.aload_n 0, 1) := by decide +kernel
theorem dX2_spies_1 : decode cX2_spies 1 = .ok (.aload_n 0, 1) := by decide +kernel
theorem dX2_spies_2 : decode cX2_spies 2 = .ok (.getfield 12, 3) := by decide +kernel
theorem dX2_spies_5 : decode cX2_spies 5 = .ok (.iload_n 1, 1) := by decide +kernel
theorem dX2_spies_6 : decode cX2_spies 6 = .ok (.invokevirtual 116, 3) := by decide +kernel
theorem dX2_spies_9 : decode cX2_spies 9 = .ok (.aload_n 0, 1) := by decide +kernel
theorem dX2_spies_10 : decode cX2_spies 10 = .ok (.getfield 12, 3) := by decide +kernel
theorem dX2_spies_13 : decode cX2_spies 13 = .ok (.getfield 119, 3) := by decide +kernel
theorem dX2_spies_16 : decode cX2_spies 16 = .ok (.iload_n 1, 1) := by decide +kernel
theorem dX2_spies_17 : decode cX2_spies 17 = .ok (.invokestatic 104, 3) := by decide +kernel
theorem dX2_spies_20 : decode cX2_spies 20 = .ok (.invokevirtual 122, 3) := by decide +kernel
theorem dX2_spies_23 : decode cX2_spies 23 = .ok (.ireturn, 1) := by decide +kernel
def f_X2_spies (h : Nat) (μ : Mem) (a1 : Int32) : Option (Int32) := (f_X1_roomOf h μ a1).bind fun (q1 : Int32) => (f_X9_holds (μ (h + 1) 1 4) a1).bind fun (q2 : Int32) => (f_X2_sight h μ q1 q2).bind fun (q3 : Int32) => some q3
set_option maxHeartbeats 4000000 in
set_option maxRecDepth 100000 in
theorem c_X2_spies (G : GG) (l : Launch) (h : Nat) (hh : h < 15) (μ : Mem) (a1 : Int32) : CR G l yX2_spies (.code yX2_spies cX2_spies 2 (some .int)) 3 [.ref (gad G (h + 1) 0), .int a1] μ (f_X2_spies h μ a1) := by
  refine CR.of (own := "SaturdayKeep$House") (L0 := [some (.ref (gad G (h + 1) 0)), some (.int a1)]) rfl rfl rfl (Nat.le_of_ble_eq_true rfl) (fun C hl hC => ?_)
  subst hl
  delta f_X2_spies
  refine aw_aload_n (pc := 0) (i := 0) hC dX2_spies_0 rfl rfl ?_
  refine aw_aload_n (pc := 1) (i := 0) hC dX2_spies_1 rfl rfl ?_
  refine aw_get (pc := 2) hC inX2 (vH (j := 0) hh (by decide)) rfl rfl 0 (by decide) kw184 rfl rfl dX2_spies_2 ?_
  refine aw_iload_n (pc := 5) (i := 1) hC dX2_spies_5 rfl rfl ?_
  refine aw_callVR (pc := 6) (As := [.int a1]) hC mb_X1_roomOf kw394 (by decide) (c_X1_roomOf G C.2.1 h (Nat.lt_of_lt_of_le hh (by decide)) μ a1) (vH (j := 1) hh (by decide)) rfl rfl rfl (Nat.le_of_ble_eq_true rfl) dX2_spies_6 (fun q1 => ?_)
  refine aw_aload_n (pc := 9) (i := 0) hC dX2_spies_9 rfl rfl ?_
  refine aw_get (pc := 10) hC inX2 (vH (j := 0) hh (by decide)) rfl rfl 0 (by decide) kw184 rfl rfl dX2_spies_10 ?_
  refine aw_get (pc := 13) hC inX1 (vH (j := 1) hh (by decide)) rfl rfl 4 (by decide) kw148 rfl rfl dX2_spies_13 ?_
  refine aw_iload_n (pc := 16) (i := 1) hC dX2_spies_16 rfl rfl ?_
  refine aw_callNR (pc := 17) (As := [.int (μ (h + 1) 1 4), .int a1]) hC ms_X9_holds kw387 (by decide) (c_X9_holds G C.2.1   μ (μ (h + 1) 1 4) a1) rfl (Nat.le_of_ble_eq_true rfl) dX2_spies_17 (fun q2 => ?_)
  refine aw_callVR (pc := 20) (As := [.int q1, .int q2]) hC mb_X2_sight kw401 (by decide) (c_X2_sight G C.2.1 h (Nat.lt_of_lt_of_le hh (by decide)) μ q1 q2) (vH (j := 0) hh (by decide)) rfl rfl rfl (Nat.le_of_ble_eq_true rfl) dX2_spies_20 (fun q3 => ?_)
  exact aw_iretR hC dX2_spies_23
theorem dX2_watchers_0 : decode cX2_watchers 0 = .ok (.iconst 0, 1) := by decide +kernel
theorem dX2_watchers_1 : decode cX2_watchers 1 = .ok (.istore_n 2, 1) := by decide +kernel
theorem dX2_watchers_2 : decode cX2_watchers 2 = .ok (.iconst 0, 1) := by decide +kernel
theorem dX2_watchers_3 : decode cX2_watchers 3 = .ok (.istore_n 3, 1) := by decide +kernel
theorem dX2_watchers_4 : decode cX2_watchers 4 = .ok (.iload_n 3, 1) := by decide +kernel
theorem dX2_watchers_5 : decode cX2_watchers 5 = .ok (.bipush 8, 2) := by decide +kernel
theorem dX2_watchers_7 : decode cX2_watchers 7 = .ok (.if_icmp .ge 46, 3) := by decide +kernel
theorem dX2_watchers_10 : decode cX2_watchers 10 = .ok (.iload_n 2, 1) := by decide +kernel
theorem dX2_watchers_11 : decode cX2_watchers 11 = .ok (.iload_n 3, 1) := by decide +kernel
theorem dX2_watchers_12 : decode cX2_watchers 12 = .ok (.aload_n 0, 1) := by decide +kernel
theorem dX2_watchers_13 : decode cX2_watchers 13 = .ok (.getfield 12, 3) := by decide +kernel
theorem dX2_watchers_16 : decode cX2_watchers 16 = .ok (.getfield 126, 3) := by decide +kernel
theorem dX2_watchers_19 : decode cX2_watchers 19 = .ok (.iload_n 3, 1) := by decide +kernel
theorem dX2_watchers_20 : decode cX2_watchers 20 = .ok (.invokestatic 104, 3) := by decide +kernel
theorem dX2_watchers_23 : decode cX2_watchers 23 = .ok (.ifCond .eq 19, 3) := by decide +kernel
theorem dX2_watchers_26 : decode cX2_watchers 26 = .ok (.aload_n 0, 1) := by decide +kernel
theorem dX2_watchers_27 : decode cX2_watchers 27 = .ok (.iload_n 3, 1) := by decide +kernel
theorem dX2_watchers_28 : decode cX2_watchers 28 = .ok (.invokevirtual 129, 3) := by decide +kernel
theorem dX2_watchers_31 : decode cX2_watchers 31 = .ok (.iload_n 1, 1) := by decide +kernel
theorem dX2_watchers_32 : decode cX2_watchers 32 = .ok (.invokestatic 104, 3) := by decide +kernel
theorem dX2_watchers_35 : decode cX2_watchers 35 = .ok (.ifCond .eq 7, 3) := by decide +kernel
theorem dX2_watchers_38 : decode cX2_watchers 38 = .ok (.iconst 1, 1) := by decide +kernel
theorem dX2_watchers_39 : decode cX2_watchers 39 = .ok (.goto 4, 3) := by decide +kernel
theorem dX2_watchers_42 : decode cX2_watchers 42 = .ok (.iconst 0, 1) := by decide +kernel
theorem dX2_watchers_43 : decode cX2_watchers 43 = .ok (.invokestatic 107, 3) := by decide +kernel
theorem dX2_watchers_46 : decode cX2_watchers 46 = .ok (.istore_n 2, 1) := by decide +kernel
theorem dX2_watchers_47 : decode cX2_watchers 47 = .ok (.iinc 3 1, 3) := by decide +kernel
theorem dX2_watchers_50 : decode cX2_watchers 50 = .ok (.goto (-46), 3) := by decide +kernel
theorem dX2_watchers_53 : decode cX2_watchers 53 = .ok (.iload_n 2, 1) := by decide +kernel
theorem dX2_watchers_54 : decode cX2_watchers 54 = .ok (.ireturn, 1) := by decide +kernel
def lp_X2_watchers_4 (a1 : Int32) (h : Nat) (μ : Mem) : Nat → Int32 → Int32 → Option (Int32)
  | 0, _, _ => none
  | n + 1, x1, x2 => if 8 ≤ x2 then (some x1) else ((f_X9_holds (μ (h + 1) 1 5) x2).bind fun (q3 : Int32) => nm (fun (x4 : Int32) => (f_X9_withMember x1 x2 x4).bind fun (q5 : Int32) => lp_X2_watchers_4 a1 h μ n q5 (x2 + 1)) fun (J43 : Int32 → Option (Int32)) => nm (J43 0) fun (J42 : Option (Int32)) => if q3 = 0 then (J42) else ((f_X2_spies h μ x2).bind fun (q6 : Int32) => (f_X9_holds q6 a1).bind fun (q7 : Int32) => if q7 = 0 then (J42) else (J43 1)))
def f_X2_watchers (h : Nat) (μ : Mem) (a1 : Int32) : Option (Int32) := lp_X2_watchers_4 a1 h μ 4096 0 0
set_option maxHeartbeats 4000000 in
set_option maxRecDepth 100000 in
theorem c_X2_watchers (G : GG) (l : Launch) (h : Nat) (hh : h < 15) (μ : Mem) (a1 : Int32) : CR G l yX2_watchers (.code yX2_watchers cX2_watchers 4 (some .int)) 4 [.ref (gad G (h + 1) 0), .int a1] μ (f_X2_watchers h μ a1) := by
  refine CR.of (own := "SaturdayKeep$House") (L0 := [some (.ref (gad G (h + 1) 0)), some (.int a1), none, none]) rfl rfl rfl (Nat.le_of_ble_eq_true rfl) (fun C hl hC => ?_)
  subst hl
  delta f_X2_watchers
  refine aw_iconst (pc := 0) (v := 0) hC dX2_watchers_0 ic0 ?_
  refine aw_istore_n (pc := 1) (i := 2) hC dX2_watchers_1 rfl rfl (by decide) ?_
  refine aw_iconst (pc := 2) (v := 0) hC dX2_watchers_2 ic0 ?_
  refine aw_istore_n (pc := 3) (i := 3) hC dX2_watchers_3 rfl rfl (by decide) ?_
  have hL4 : ∀ (n : Nat) (x1 : Int32) (x2 : Int32), AW G C (qR G C 0 0 μ) 0 0 4 μ 4 [some (.ref (gad G (h + 1) 0)), some (.int a1), some (.int x1), some (.int x2)] [] (lp_X2_watchers_4 a1 h μ n x1 x2) := by
    intro n
    induction n with
    | zero => intro x1 x2; exact aw_none
    | succ n ih =>
      intro x1 x2
      rw [lp_X2_watchers_4]
      refine aw_iload_n (pc := 4) (i := 3) hC dX2_watchers_4 rfl rfl ?_
      refine aw_bipush (pc := 5) (v := 8) hC dX2_watchers_5 bc8 ?_
      refine aw_icmp_ge (pc := 7) (tgt := 53) hC dX2_watchers_7 (by decide) (fun _ => ?_) (fun _ => ?_)
      · skip
        refine aw_iload_n (pc := 53) (i := 2) hC dX2_watchers_53 rfl rfl ?_
        exact aw_iretR hC dX2_watchers_54
      · skip
        refine aw_iload_n (pc := 10) (i := 2) hC dX2_watchers_10 rfl rfl ?_
        refine aw_iload_n (pc := 11) (i := 3) hC dX2_watchers_11 rfl rfl ?_
        refine aw_aload_n (pc := 12) (i := 0) hC dX2_watchers_12 rfl rfl ?_
        refine aw_get (pc := 13) hC inX2 (vH (j := 0) hh (by decide)) rfl rfl 0 (by decide) kw184 rfl rfl dX2_watchers_13 ?_
        refine aw_get (pc := 16) hC inX1 (vH (j := 1) hh (by decide)) rfl rfl 5 (by decide) kw151 rfl rfl dX2_watchers_16 ?_
        refine aw_iload_n (pc := 19) (i := 3) hC dX2_watchers_19 rfl rfl ?_
        refine aw_callNR (pc := 20) (As := [.int (μ (h + 1) 1 5), .int x2]) hC ms_X9_holds kw387 (by decide) (c_X9_holds G C.2.1   μ (μ (h + 1) 1 5) x2) rfl (Nat.le_of_ble_eq_true rfl) dX2_watchers_20 (fun q3 => ?_)
        refine aw_nmJ (fun (J43 : Int32 → Option (Int32)) => ∀ (x4 : Int32), AW G C (qR G C 0 0 μ) 0 0 4 μ 43 [some (.ref (gad G (h + 1) 0)), some (.int a1), none, some (.int x2)] [.int x4, .int x2, .int x1] (J43 x4)) (fun x4 => ?_) (fun J43 hJ43 => ?_)
        · skip
          refine aw_callNR (pc := 43) (As := [.int x1, .int x2, .int x4]) hC ms_X9_withMember kw408 (by decide) (c_X9_withMember G C.2.1   μ x1 x2 x4) rfl (Nat.le_of_ble_eq_true rfl) dX2_watchers_43 (fun q5 => ?_)
          refine aw_istore_n (pc := 46) (i := 2) hC dX2_watchers_46 rfl rfl (by decide) ?_
          refine aw_iinc (pc := 47) (v := x2 + 1) hC dX2_watchers_47 rfl (congrArg (HAdd.hAdd _) ic1) rfl (by decide) ?_
          refine aw_goto (pc := 50) (tgt := 4) hC dX2_watchers_50 (by decide) ?_
          exact ih q5 (x2 + 1)
        · skip
          refine aw_nmJ (fun (J42 : Option (Int32)) => AW G C (qR G C 0 0 μ) 0 0 4 μ 42 [some (.ref (gad G (h + 1) 0)), some (.int a1), none, some (.int x2)] [.int x2, .int x1] (J42)) ?_ (fun J42 hJ42 => ?_)
          · skip
            refine aw_iconst (pc := 42) (v := 0) hC dX2_watchers_42 ic0 ?_
            exact hJ43 0
          · skip
            refine aw_if_eq (pc := 23) (tgt := 42) hC dX2_watchers_23 (by decide) (fun _ => ?_) (fun _ => ?_)
            · skip
              exact aw_drop [2] (hJ42)
            · skip
              refine aw_aload_n (pc := 26) (i := 0) hC dX2_watchers_26 rfl rfl ?_
              refine aw_iload_n (pc := 27) (i := 3) hC dX2_watchers_27 rfl rfl ?_
              refine aw_callVR (pc := 28) (As := [.int x2]) hC mb_X2_spies kw390 (by decide) (c_X2_spies G C.2.1 h (Nat.lt_of_lt_of_le hh (by decide)) μ x2) (vH (j := 0) hh (by decide)) rfl rfl rfl (Nat.le_of_ble_eq_true rfl) dX2_watchers_28 (fun q6 => ?_)
              refine aw_iload_n (pc := 31) (i := 1) hC dX2_watchers_31 rfl rfl ?_
              refine aw_callNR (pc := 32) (As := [.int q6, .int a1]) hC ms_X9_holds kw387 (by decide) (c_X9_holds G C.2.1   μ q6 a1) rfl (Nat.le_of_ble_eq_true rfl) dX2_watchers_32 (fun q7 => ?_)
              refine aw_if_eq (pc := 35) (tgt := 42) hC dX2_watchers_35 (by decide) (fun _ => ?_) (fun _ => ?_)
              · skip
                exact aw_drop [2] (hJ42)
              · skip
                refine aw_iconst (pc := 38) (v := 1) hC dX2_watchers_38 ic1 ?_
                refine aw_goto (pc := 39) (tgt := 43) hC dX2_watchers_39 (by decide) ?_
                exact aw_drop [2] (hJ43 1)
  exact hL4 4096 0 0
theorem dX2_holesInto_0 : decode cX2_holesInto 0 = .ok (.iconst 0, 1) := by decide +kernel
theorem dX2_holesInto_1 : decode cX2_holesInto 1 = .ok (.istore_n 2, 1) := by decide +kernel
theorem dX2_holesInto_2 : decode cX2_holesInto 2 = .ok (.iconst 0, 1) := by decide +kernel
theorem dX2_holesInto_3 : decode cX2_holesInto 3 = .ok (.istore_n 3, 1) := by decide +kernel
theorem dX2_holesInto_4 : decode cX2_holesInto 4 = .ok (.iload_n 3, 1) := by decide +kernel
theorem dX2_holesInto_5 : decode cX2_holesInto 5 = .ok (.bipush 8, 2) := by decide +kernel
theorem dX2_holesInto_7 : decode cX2_holesInto 7 = .ok (.if_icmp .ge 25, 3) := by decide +kernel
theorem dX2_holesInto_10 : decode cX2_holesInto 10 = .ok (.iload_n 2, 1) := by decide +kernel
theorem dX2_holesInto_11 : decode cX2_holesInto 11 = .ok (.iload_n 3, 1) := by decide +kernel
theorem dX2_holesInto_12 : decode cX2_holesInto 12 = .ok (.aload_n 0, 1) := by decide +kernel
theorem dX2_holesInto_13 : decode cX2_holesInto 13 = .ok (.getfield 32, 3) := by decide +kernel
theorem dX2_holesInto_16 : decode cX2_holesInto 16 = .ok (.iload_n 3, 1) := by decide +kernel
theorem dX2_holesInto_17 : decode cX2_holesInto 17 = .ok (.iaload, 1) := by decide +kernel
theorem dX2_holesInto_18 : decode cX2_holesInto 18 = .ok (.iload_n 1, 1) := by decide +kernel
theorem dX2_holesInto_19 : decode cX2_holesInto 19 = .ok (.invokestatic 104, 3) := by decide +kernel
theorem dX2_holesInto_22 : decode cX2_holesInto 22 = .ok (.invokestatic 107, 3) := by decide +kernel
theorem dX2_holesInto_25 : decode cX2_holesInto 25 = .ok (.istore_n 2, 1) := by decide +kernel
theorem dX2_holesInto_26 : decode cX2_holesInto 26 = .ok (.iinc 3 1, 3) := by decide +kernel
theorem dX2_holesInto_29 : decode cX2_holesInto 29 = .ok (.goto (-25), 3) := by decide +kernel
theorem dX2_holesInto_32 : decode cX2_holesInto 32 = .ok (.iload_n 2, 1) := by decide +kernel
theorem dX2_holesInto_33 : decode cX2_holesInto 33 = .ok (.ireturn, 1) := by decide +kernel
def lp_X2_holesInto_4 (a1 : Int32) (h : Nat) (μ : Mem) : Nat → Int32 → Int32 → Option (Int32)
  | 0, _, _ => none
  | n + 1, x1, x2 => if 8 ≤ x2 then (some x1) else (ix x2 8 ((f_X9_holds (μ (h + 1) 10 x2.toNatClampNeg) a1).bind fun (q3 : Int32) => (f_X9_withMember x1 x2 q3).bind fun (q4 : Int32) => lp_X2_holesInto_4 a1 h μ n q4 (x2 + 1)))
def f_X2_holesInto (h : Nat) (μ : Mem) (a1 : Int32) : Option (Int32) := lp_X2_holesInto_4 a1 h μ 4096 0 0
set_option maxHeartbeats 4000000 in
set_option maxRecDepth 100000 in
theorem c_X2_holesInto (G : GG) (l : Launch) (h : Nat) (hh : h < 15) (μ : Mem) (a1 : Int32) : CR G l yX2_holesInto (.code yX2_holesInto cX2_holesInto 4 (some .int)) 2 [.ref (gad G (h + 1) 0), .int a1] μ (f_X2_holesInto h μ a1) := by
  refine CR.of (own := "SaturdayKeep$House") (L0 := [some (.ref (gad G (h + 1) 0)), some (.int a1), none, none]) rfl rfl rfl (Nat.le_of_ble_eq_true rfl) (fun C hl hC => ?_)
  subst hl
  delta f_X2_holesInto
  refine aw_iconst (pc := 0) (v := 0) hC dX2_holesInto_0 ic0 ?_
  refine aw_istore_n (pc := 1) (i := 2) hC dX2_holesInto_1 rfl rfl (by decide) ?_
  refine aw_iconst (pc := 2) (v := 0) hC dX2_holesInto_2 ic0 ?_
  refine aw_istore_n (pc := 3) (i := 3) hC dX2_holesInto_3 rfl rfl (by decide) ?_
  have hL4 : ∀ (n : Nat) (x1 : Int32) (x2 : Int32), AW G C (qR G C 0 0 μ) 0 0 4 μ 4 [some (.ref (gad G (h + 1) 0)), some (.int a1), some (.int x1), some (.int x2)] [] (lp_X2_holesInto_4 a1 h μ n x1 x2) := by
    intro n
    induction n with
    | zero => intro x1 x2; exact aw_none
    | succ n ih =>
      intro x1 x2
      rw [lp_X2_holesInto_4]
      refine aw_iload_n (pc := 4) (i := 3) hC dX2_holesInto_4 rfl rfl ?_
      refine aw_bipush (pc := 5) (v := 8) hC dX2_holesInto_5 bc8 ?_
      refine aw_icmp_ge (pc := 7) (tgt := 32) hC dX2_holesInto_7 (by decide) (fun _ => ?_) (fun _ => ?_)
      · skip
        refine aw_iload_n (pc := 32) (i := 2) hC dX2_holesInto_32 rfl rfl ?_
        exact aw_iretR hC dX2_holesInto_33
      · skip
        refine aw_iload_n (pc := 10) (i := 2) hC dX2_holesInto_10 rfl rfl ?_
        refine aw_iload_n (pc := 11) (i := 3) hC dX2_holesInto_11 rfl rfl ?_
        refine aw_aload_n (pc := 12) (i := 0) hC dX2_holesInto_12 rfl rfl ?_
        refine aw_get (pc := 13) hC inX2 (vH (j := 0) hh (by decide)) rfl rfl 3 (by decide) kw191 rfl rfl dX2_holesInto_13 ?_
        refine aw_iload_n (pc := 16) (i := 3) hC dX2_holesInto_16 rfl rfl ?_
        refine aw_iaload (pc := 17) hC (vH (j := 10) hh (by decide)) rfl dX2_holesInto_17 ?_
        refine aw_iload_n (pc := 18) (i := 1) hC dX2_holesInto_18 rfl rfl ?_
        refine aw_callNR (pc := 19) (As := [.int (μ (h + 1) 10 x2.toNatClampNeg), .int a1]) hC ms_X9_holds kw387 (by decide) (c_X9_holds G C.2.1   μ (μ (h + 1) 10 x2.toNatClampNeg) a1) rfl (Nat.le_of_ble_eq_true rfl) dX2_holesInto_19 (fun q3 => ?_)
        refine aw_callNR (pc := 22) (As := [.int x1, .int x2, .int q3]) hC ms_X9_withMember kw408 (by decide) (c_X9_withMember G C.2.1   μ x1 x2 q3) rfl (Nat.le_of_ble_eq_true rfl) dX2_holesInto_22 (fun q4 => ?_)
        refine aw_istore_n (pc := 25) (i := 2) hC dX2_holesInto_25 rfl rfl (by decide) ?_
        refine aw_iinc (pc := 26) (v := x2 + 1) hC dX2_holesInto_26 rfl (congrArg (HAdd.hAdd _) ic1) rfl (by decide) ?_
        refine aw_goto (pc := 29) (tgt := 4) hC dX2_holesInto_29 (by decide) ?_
        exact ih q4 (x2 + 1)
  exact hL4 4096 0 0
theorem dX2_holesFrom_0 : decode cX2_holesFrom 0 = .ok (.iload_n 1, 1) := by decide +kernel
theorem dX2_holesFrom_1 : decode cX2_holesFrom 1 = .ok (.invokestatic 100, 3) := by decide +kernel
theorem dX2_holesFrom_4 : decode cX2_holesFrom 4 = .ok (.ifCond .eq 12, 3) := by decide +kernel
theorem dX2_holesFrom_7 : decode cX2_holesFrom 7 = .ok (.aload_n 0, 1) := by decide +kernel
theorem dX2_holesFrom_8 : decode cX2_holesFrom 8 = .ok (.getfield 32, 3) := by decide +kernel
theorem dX2_holesFrom_11 : decode cX2_holesFrom 11 = .ok (.iload_n 1, 1) := by decide +kernel
theorem dX2_holesFrom_12 : decode cX2_holesFrom 12 = .ok (.iaload, 1) := by decide +kernel
theorem dX2_holesFrom_13 : decode cX2_holesFrom 13 = .ok (.goto 4, 3) := by decide +kernel
theorem dX2_holesFrom_16 : decode cX2_holesFrom 16 = .ok (.iconst 0, 1) := by decide +kernel
theorem dX2_holesFrom_17 : decode cX2_holesFrom 17 = .ok (.ireturn, 1) := by decide +kernel
def f_X2_holesFrom (h : Nat) (μ : Mem) (a1 : Int32) : Option (Int32) := (f_X9_isRoom a1).bind fun (q1 : Int32) => if q1 = 0 then (some 0) else (ix a1 8 (some (μ (h + 1) 10 a1.toNatClampNeg)))
set_option maxHeartbeats 4000000 in
set_option maxRecDepth 100000 in
theorem c_X2_holesFrom (G : GG) (l : Launch) (h : Nat) (hh : h < 15) (μ : Mem) (a1 : Int32) : CR G l yX2_holesFrom (.code yX2_holesFrom cX2_holesFrom 2 (some .int)) 2 [.ref (gad G (h + 1) 0), .int a1] μ (f_X2_holesFrom h μ a1) := by
  refine CR.of (own := "SaturdayKeep$House") (L0 := [some (.ref (gad G (h + 1) 0)), some (.int a1)]) rfl rfl rfl (Nat.le_of_ble_eq_true rfl) (fun C hl hC => ?_)
  subst hl
  delta f_X2_holesFrom
  refine aw_iload_n (pc := 0) (i := 1) hC dX2_holesFrom_0 rfl rfl ?_
  refine aw_callNR (pc := 1) (As := [.int a1]) hC ms_X9_isRoom kw405 (by decide) (c_X9_isRoom G C.2.1   μ a1) rfl (Nat.le_of_ble_eq_true rfl) dX2_holesFrom_1 (fun q1 => ?_)
  refine aw_if_eq (pc := 4) (tgt := 16) hC dX2_holesFrom_4 (by decide) (fun _ => ?_) (fun _ => ?_)
  · skip
    refine aw_iconst (pc := 16) (v := 0) hC dX2_holesFrom_16 ic0 ?_
    exact aw_iretR hC dX2_holesFrom_17
  · skip
    refine aw_aload_n (pc := 7) (i := 0) hC dX2_holesFrom_7 rfl rfl ?_
    refine aw_get (pc := 8) hC inX2 (vH (j := 0) hh (by decide)) rfl rfl 3 (by decide) kw191 rfl rfl dX2_holesFrom_8 ?_
    refine aw_iload_n (pc := 11) (i := 1) hC dX2_holesFrom_11 rfl rfl ?_
    refine aw_iaload (pc := 12) hC (vH (j := 10) hh (by decide)) rfl dX2_holesFrom_12 ?_
    refine aw_goto (pc := 13) (tgt := 17) hC dX2_holesFrom_13 (by decide) ?_
    exact aw_iretR hC dX2_holesFrom_17
theorem dX2_allHoles_0 : decode cX2_allHoles 0 = .ok (.iconst 0, 1) := by decide +kernel
theorem dX2_allHoles_1 : decode cX2_allHoles 1 = .ok (.istore_n 1, 1) := by decide +kernel
theorem dX2_allHoles_2 : decode cX2_allHoles 2 = .ok (.iconst 0, 1) := by decide +kernel
theorem dX2_allHoles_3 : decode cX2_allHoles 3 = .ok (.istore_n 2, 1) := by decide +kernel
theorem dX2_allHoles_4 : decode cX2_allHoles 4 = .ok (.iload_n 2, 1) := by decide +kernel
theorem dX2_allHoles_5 : decode cX2_allHoles 5 = .ok (.bipush 8, 2) := by decide +kernel
theorem dX2_allHoles_7 : decode cX2_allHoles 7 = .ok (.if_icmp .ge 21, 3) := by decide +kernel
theorem dX2_allHoles_10 : decode cX2_allHoles 10 = .ok (.iload_n 1, 1) := by decide +kernel
theorem dX2_allHoles_11 : decode cX2_allHoles 11 = .ok (.aload_n 0, 1) := by decide +kernel
theorem dX2_allHoles_12 : decode cX2_allHoles 12 = .ok (.getfield 32, 3) := by decide +kernel
theorem dX2_allHoles_15 : decode cX2_allHoles 15 = .ok (.iload_n 2, 1) := by decide +kernel
theorem dX2_allHoles_16 : decode cX2_allHoles 16 = .ok (.iaload, 1) := by decide +kernel
theorem dX2_allHoles_17 : decode cX2_allHoles 17 = .ok (.invokestatic 111, 3) := by decide +kernel
theorem dX2_allHoles_20 : decode cX2_allHoles 20 = .ok (.iadd, 1) := by decide +kernel
theorem dX2_allHoles_21 : decode cX2_allHoles 21 = .ok (.istore_n 1, 1) := by decide +kernel
theorem dX2_allHoles_22 : decode cX2_allHoles 22 = .ok (.iinc 2 1, 3) := by decide +kernel
theorem dX2_allHoles_25 : decode cX2_allHoles 25 = .ok (.goto (-21), 3) := by decide +kernel
theorem dX2_allHoles_28 : decode cX2_allHoles 28 = .ok (.iload_n 1, 1) := by decide +kernel
theorem dX2_allHoles_29 : decode cX2_allHoles 29 = .ok (.ireturn, 1) := by decide +kernel
def lp_X2_allHoles_4 (h : Nat) (μ : Mem) : Nat → Int32 → Int32 → Option (Int32)
  | 0, _, _ => none
  | n + 1, x1, x2 => if 8 ≤ x2 then (some x1) else (ix x2 8 ((f_J6_bitCount_0f7a4 (μ (h + 1) 10 x2.toNatClampNeg)).bind fun (q3 : Int32) => lp_X2_allHoles_4 h μ n (x1 + q3) (x2 + 1)))
def f_X2_allHoles (h : Nat) (μ : Mem) : Option (Int32) := lp_X2_allHoles_4 h μ 4096 0 0
set_option maxHeartbeats 4000000 in
set_option maxRecDepth 100000 in
theorem c_X2_allHoles (G : GG) (l : Launch) (h : Nat) (hh : h < 15) (μ : Mem) : CR G l yX2_allHoles (.code yX2_allHoles cX2_allHoles 3 (some .int)) 2 [.ref (gad G (h + 1) 0)] μ (f_X2_allHoles h μ) := by
  refine CR.of (own := "SaturdayKeep$House") (L0 := [some (.ref (gad G (h + 1) 0)), none, none]) rfl rfl rfl (Nat.le_of_ble_eq_true rfl) (fun C hl hC => ?_)
  subst hl
  delta f_X2_allHoles
  refine aw_iconst (pc := 0) (v := 0) hC dX2_allHoles_0 ic0 ?_
  refine aw_istore_n (pc := 1) (i := 1) hC dX2_allHoles_1 rfl rfl (by decide) ?_
  refine aw_iconst (pc := 2) (v := 0) hC dX2_allHoles_2 ic0 ?_
  refine aw_istore_n (pc := 3) (i := 2) hC dX2_allHoles_3 rfl rfl (by decide) ?_
  have hL4 : ∀ (n : Nat) (x1 : Int32) (x2 : Int32), AW G C (qR G C 0 0 μ) 0 0 3 μ 4 [some (.ref (gad G (h + 1) 0)), some (.int x1), some (.int x2)] [] (lp_X2_allHoles_4 h μ n x1 x2) := by
    intro n
    induction n with
    | zero => intro x1 x2; exact aw_none
    | succ n ih =>
      intro x1 x2
      rw [lp_X2_allHoles_4]
      refine aw_iload_n (pc := 4) (i := 2) hC dX2_allHoles_4 rfl rfl ?_
      refine aw_bipush (pc := 5) (v := 8) hC dX2_allHoles_5 bc8 ?_
      refine aw_icmp_ge (pc := 7) (tgt := 28) hC dX2_allHoles_7 (by decide) (fun _ => ?_) (fun _ => ?_)
      · skip
        refine aw_iload_n (pc := 28) (i := 1) hC dX2_allHoles_28 rfl rfl ?_
        exact aw_iretR hC dX2_allHoles_29
      · skip
        refine aw_iload_n (pc := 10) (i := 1) hC dX2_allHoles_10 rfl rfl ?_
        refine aw_aload_n (pc := 11) (i := 0) hC dX2_allHoles_11 rfl rfl ?_
        refine aw_get (pc := 12) hC inX2 (vH (j := 0) hh (by decide)) rfl rfl 3 (by decide) kw191 rfl rfl dX2_allHoles_12 ?_
        refine aw_iload_n (pc := 15) (i := 2) hC dX2_allHoles_15 rfl rfl ?_
        refine aw_iaload (pc := 16) hC (vH (j := 10) hh (by decide)) rfl dX2_allHoles_16 ?_
        refine aw_callSR (pc := 17) (As := [.int (μ (h + 1) 10 x2.toNatClampNeg)]) hC ms_J6_bitCount_0f7a4 kw572 (by decide) (c_J6_bitCount_0f7a4 G C.2.1   μ (μ (h + 1) 10 x2.toNatClampNeg)) rfl (Nat.le_of_ble_eq_true rfl) dX2_allHoles_17 (fun q3 => ?_)
        refine aw_iadd (pc := 20) hC dX2_allHoles_20 ?_
        refine aw_istore_n (pc := 21) (i := 1) hC dX2_allHoles_21 rfl rfl (by decide) ?_
        refine aw_iinc (pc := 22) (v := x2 + 1) hC dX2_allHoles_22 rfl (congrArg (HAdd.hAdd _) ic1) rfl (by decide) ?_
        refine aw_goto (pc := 25) (tgt := 4) hC dX2_allHoles_25 (by decide) ?_
        exact ih (x1 + q3) (x2 + 1)
  exact hL4 4096 0 0
theorem dX2_setHole_0 : decode cX2_setHole 0 = .ok (.iload_n 1, 1) := by decide +kernel
theorem dX2_setHole_1 : decode cX2_setHole 1 = .ok (.invokestatic 100, 3) := by decide +kernel
theorem dX2_setHole_4 : decode cX2_setHole 4 = .ok (.ifCond .eq 27, 3) := by decide +kernel
theorem dX2_setHole_7 : decode cX2_setHole 7 = .ok (.iload_n 2, 1) := by decide +kernel
theorem dX2_setHole_8 : decode cX2_setHole 8 = .ok (.invokestatic 100, 3) := by decide +kernel
theorem dX2_setHole_11 : decode cX2_setHole 11 = .ok (.ifCond .eq 20, 3) := by decide +kernel
theorem dX2_setHole_14 : decode cX2_setHole 14 = .ok (.aload_n 0, 1) := by decide +kernel
theorem dX2_setHole_15 : decode cX2_setHole 15 = .ok (.getfield 32, 3) := by decide +kernel
theorem dX2_setHole_18 : decode cX2_setHole 18 = .ok (.iload_n 1, 1) := by decide +kernel
theorem dX2_setHole_19 : decode cX2_setHole 19 = .ok (.aload_n 0, 1) := by decide +kernel
theorem dX2_setHole_20 : decode cX2_setHole 20 = .ok (.getfield 32, 3) := by decide +kernel
theorem dX2_setHole_23 : decode cX2_setHole 23 = .ok (.iload_n 1, 1) := by decide +kernel
theorem dX2_setHole_24 : decode cX2_setHole 24 = .ok (.iaload, 1) := by decide +kernel
theorem dX2_setHole_25 : decode cX2_setHole 25 = .ok (.iload_n 2, 1) := by decide +kernel
theorem dX2_setHole_26 : decode cX2_setHole 26 = .ok (.iload_n 3, 1) := by decide +kernel
theorem dX2_setHole_27 : decode cX2_setHole 27 = .ok (.invokestatic 107, 3) := by decide +kernel
theorem dX2_setHole_30 : decode cX2_setHole 30 = .ok (.iastore, 1) := by decide +kernel
theorem dX2_setHole_31 : decode cX2_setHole 31 = .ok (.return_, 1) := by decide +kernel
def f_X2_setHole (h : Nat) (μ : Mem) (a1 : Int32) (a2 : Int32) (a3 : Int32) : Option (Mem) := (f_X9_isRoom a1).bind fun (q1 : Int32) => if q1 = 0 then (some μ) else ((f_X9_isRoom a2).bind fun (q2 : Int32) => if q2 = 0 then (some μ) else (ix a1 8 ((f_X9_withMember (μ (h + 1) 10 a1.toNatClampNeg) a2 a3).bind fun (q3 : Int32) => ix a1 8 (nm (upm μ (h + 1) 10 a1.toNatClampNeg q3) fun (μ4 : Mem) => some μ4))))
set_option maxHeartbeats 4000000 in
set_option maxRecDepth 100000 in
theorem c_X2_setHole (G : GG) (l : Launch) (h : Nat) (hh : h < 15) (μ : Mem) (a1 : Int32) (a2 : Int32) (a3 : Int32) : CV G l yX2_setHole (.code yX2_setHole cX2_setHole 4 none) 2 [.ref (gad G (h + 1) 0), .int a1, .int a2, .int a3] μ (f_X2_setHole h μ a1 a2 a3) := by
  refine CV.of (own := "SaturdayKeep$House") (L0 := [some (.ref (gad G (h + 1) 0)), some (.int a1), some (.int a2), some (.int a3)]) rfl rfl rfl (Nat.le_of_ble_eq_true rfl) (fun C hl hC => ?_)
  subst hl
  delta f_X2_setHole
  refine aw_iload_n (pc := 0) (i := 1) hC dX2_setHole_0 rfl rfl ?_
  refine aw_callNR (pc := 1) (As := [.int a1]) hC ms_X9_isRoom kw405 (by decide) (c_X9_isRoom G C.2.1   μ a1) rfl (Nat.le_of_ble_eq_true rfl) dX2_setHole_1 (fun q1 => ?_)
  refine aw_if_eq (pc := 4) (tgt := 31) hC dX2_setHole_4 (by decide) (fun _ => ?_) (fun _ => ?_)
  · skip
    exact aw_vret hC dX2_setHole_31
  · skip
    refine aw_iload_n (pc := 7) (i := 2) hC dX2_setHole_7 rfl rfl ?_
    refine aw_callNR (pc := 8) (As := [.int a2]) hC ms_X9_isRoom kw405 (by decide) (c_X9_isRoom G C.2.1   μ a2) rfl (Nat.le_of_ble_eq_true rfl) dX2_setHole_8 (fun q2 => ?_)
    refine aw_if_eq (pc := 11) (tgt := 31) hC dX2_setHole_11 (by decide) (fun _ => ?_) (fun _ => ?_)
    · skip
      exact aw_vret hC dX2_setHole_31
    · skip
      refine aw_aload_n (pc := 14) (i := 0) hC dX2_setHole_14 rfl rfl ?_
      refine aw_get (pc := 15) hC inX2 (vH (j := 0) hh (by decide)) rfl rfl 3 (by decide) kw191 rfl rfl dX2_setHole_15 ?_
      refine aw_iload_n (pc := 18) (i := 1) hC dX2_setHole_18 rfl rfl ?_
      refine aw_aload_n (pc := 19) (i := 0) hC dX2_setHole_19 rfl rfl ?_
      refine aw_get (pc := 20) hC inX2 (vH (j := 0) hh (by decide)) rfl rfl 3 (by decide) kw191 rfl rfl dX2_setHole_20 ?_
      refine aw_iload_n (pc := 23) (i := 1) hC dX2_setHole_23 rfl rfl ?_
      refine aw_iaload (pc := 24) hC (vH (j := 10) hh (by decide)) rfl dX2_setHole_24 ?_
      refine aw_iload_n (pc := 25) (i := 2) hC dX2_setHole_25 rfl rfl ?_
      refine aw_iload_n (pc := 26) (i := 3) hC dX2_setHole_26 rfl rfl ?_
      refine aw_callNR (pc := 27) (As := [.int (μ (h + 1) 10 a1.toNatClampNeg), .int a2, .int a3]) hC ms_X9_withMember kw408 (by decide) (c_X9_withMember G C.2.1   μ (μ (h + 1) 10 a1.toNatClampNeg) a2 a3) rfl (Nat.le_of_ble_eq_true rfl) dX2_setHole_27 (fun q3 => ?_)
      refine aw_iastoreN (pc := 30) hC (vH (j := 10) hh (by decide)) (fun _ => rfl) dX2_setHole_30 (fun μ4 => ?_)
      exact aw_vret hC dX2_setHole_31
theorem dX2_setShift_0 : decode cX2_setShift 0 = .ok (.iload_n 1, 1) := by decide +kernel
theorem dX2_setShift_1 : decode cX2_setShift 1 = .ok (.ifCond .ne 11, 3) := by decide +kernel
theorem dX2_setShift_4 : decode cX2_setShift 4 = .ok (.aload_n 0, 1) := by decide +kernel
theorem dX2_setShift_5 : decode cX2_setShift 5 = .ok (.iload_n 2, 1) := by decide +kernel
theorem dX2_setShift_6 : decode cX2_setShift 6 = .ok (.putfield 39, 3) := by decide +kernel
theorem dX2_setShift_9 : decode cX2_setShift 9 = .ok (.goto 8, 3) := by decide +kernel
theorem dX2_setShift_12 : decode cX2_setShift 12 = .ok (.aload_n 0, 1) := by decide +kernel
theorem dX2_setShift_13 : decode cX2_setShift 13 = .ok (.iload_n 2, 1) := by decide +kernel
theorem dX2_setShift_14 : decode cX2_setShift 14 = .ok (.putfield 43, 3) := by decide +kernel
theorem dX2_setShift_17 : decode cX2_setShift 17 = .ok (.return_, 1) := by decide +kernel
def f_X2_setShift (h : Nat) (μ : Mem) (a1 : Int32) (a2 : Int32) : Option (Mem) := if a1 = 0 then (nm (upm μ (h + 1) 0 5 a2) fun (μ1 : Mem) => some μ1) else (nm (upm μ (h + 1) 0 6 a2) fun (μ2 : Mem) => some μ2)
set_option maxHeartbeats 4000000 in
set_option maxRecDepth 100000 in
theorem c_X2_setShift (G : GG) (l : Launch) (h : Nat) (hh : h < 15) (μ : Mem) (a1 : Int32) (a2 : Int32) : CV G l yX2_setShift (.code yX2_setShift cX2_setShift 3 none) 1 [.ref (gad G (h + 1) 0), .int a1, .int a2] μ (f_X2_setShift h μ a1 a2) := by
  refine CV.of (own := "SaturdayKeep$House") (L0 := [some (.ref (gad G (h + 1) 0)), some (.int a1), some (.int a2)]) rfl rfl rfl (Nat.le_of_ble_eq_true rfl) (fun C hl hC => ?_)
  subst hl
  delta f_X2_setShift
  refine aw_iload_n (pc := 0) (i := 1) hC dX2_setShift_0 rfl rfl ?_
  refine aw_if_ne (pc := 1) (tgt := 12) hC dX2_setShift_1 (by decide) (fun _ => ?_) (fun _ => ?_)
  · skip
    refine aw_aload_n (pc := 4) (i := 0) hC dX2_setShift_4 rfl rfl ?_
    refine aw_iload_n (pc := 5) (i := 2) hC dX2_setShift_5 rfl rfl ?_
    refine aw_putIN (pc := 6) hC inX2 (vH (j := 0) hh (by decide)) rfl rfl 5 (by decide) kw193 rfl tyX2 tyX2_ok nmX2 rfl rfl (Nat.le_of_ble_eq_true rfl) rfl dX2_setShift_6 (fun μ1 => ?_)
    refine aw_goto (pc := 9) (tgt := 17) hC dX2_setShift_9 (by decide) ?_
    exact aw_vret hC dX2_setShift_17
  · skip
    refine aw_aload_n (pc := 12) (i := 0) hC dX2_setShift_12 rfl rfl ?_
    refine aw_iload_n (pc := 13) (i := 2) hC dX2_setShift_13 rfl rfl ?_
    refine aw_putIN (pc := 14) hC inX2 (vH (j := 0) hh (by decide)) rfl rfl 6 (by decide) kw194 rfl tyX2 tyX2_ok nmX2 rfl rfl (Nat.le_of_ble_eq_true rfl) rfl dX2_setShift_14 (fun μ2 => ?_)
    exact aw_vret hC dX2_setShift_17
theorem dX2_turns_0 : decode cX2_turns 0 = .ok (.aload_n 0, 1) := by decide +kernel
theorem dX2_turns_1 : decode cX2_turns 1 = .ok (.getfield 36, 3) := by decide +kernel
theorem dX2_turns_4 : decode cX2_turns 4 = .ok (.iconst 0, 1) := by decide +kernel
theorem dX2_turns_5 : decode cX2_turns 5 = .ok (.iload_n 1, 1) := by decide +kernel
theorem dX2_turns_6 : decode cX2_turns 6 = .ok (.iastore, 1) := by decide +kernel
theorem dX2_turns_7 : decode cX2_turns 7 = .ok (.aload_n 0, 1) := by decide +kernel
theorem dX2_turns_8 : decode cX2_turns 8 = .ok (.getfield 36, 3) := by decide +kernel
theorem dX2_turns_11 : decode cX2_turns 11 = .ok (.iconst 1, 1) := by decide +kernel
theorem dX2_turns_12 : decode cX2_turns 12 = .ok (.aload_n 0, 1) := by decide +kernel
theorem dX2_turns_13 : decode cX2_turns 13 = .ok (.getfield 12, 3) := by decide +kernel
theorem dX2_turns_16 : decode cX2_turns 16 = .ok (.iload_n 1, 1) := by decide +kernel
theorem dX2_turns_17 : decode cX2_turns 17 = .ok (.invokevirtual 116, 3) := by decide +kernel
theorem dX2_turns_20 : decode cX2_turns 20 = .ok (.iastore, 1) := by decide +kernel
theorem dX2_turns_21 : decode cX2_turns 21 = .ok (.aload_n 0, 1) := by decide +kernel
theorem dX2_turns_22 : decode cX2_turns 22 = .ok (.getfield 36, 3) := by decide +kernel
theorem dX2_turns_25 : decode cX2_turns 25 = .ok (.iconst 2, 1) := by decide +kernel
theorem dX2_turns_26 : decode cX2_turns 26 = .ok (.aload_n 0, 1) := by decide +kernel
theorem dX2_turns_27 : decode cX2_turns 27 = .ok (.getfield 12, 3) := by decide +kernel
theorem dX2_turns_30 : decode cX2_turns 30 = .ok (.iload_n 1, 1) := by decide +kernel
theorem dX2_turns_31 : decode cX2_turns 31 = .ok (.invokevirtual 132, 3) := by decide +kernel
theorem dX2_turns_34 : decode cX2_turns 34 = .ok (.iastore, 1) := by decide +kernel
theorem dX2_turns_35 : decode cX2_turns 35 = .ok (.aload_n 0, 1) := by decide +kernel
theorem dX2_turns_36 : decode cX2_turns 36 = .ok (.getfield 36, 3) := by decide +kernel
theorem dX2_turns_39 : decode cX2_turns 39 = .ok (.iconst 3, 1) := by decide +kernel
theorem dX2_turns_40 : decode cX2_turns 40 = .ok (.aload_n 0, 1) := by decide +kernel
theorem dX2_turns_41 : decode cX2_turns 41 = .ok (.getfield 12, 3) := by decide +kernel
theorem dX2_turns_44 : decode cX2_turns 44 = .ok (.iload_n 1, 1) := by decide +kernel
theorem dX2_turns_45 : decode cX2_turns 45 = .ok (.invokevirtual 135, 3) := by decide +kernel
theorem dX2_turns_48 : decode cX2_turns 48 = .ok (.iastore, 1) := by decide +kernel
theorem dX2_turns_49 : decode cX2_turns 49 = .ok (.aload_n 0, 1) := by decide +kernel
theorem dX2_turns_50 : decode cX2_turns 50 = .ok (.getfield 36, 3) := by decide +kernel
theorem dX2_turns_53 : decode cX2_turns 53 = .ok (.iconst 4, 1) := by decide +kernel
theorem dX2_turns_54 : decode cX2_turns 54 = .ok (.aload_n 0, 1) := by decide +kernel
theorem dX2_turns_55 : decode cX2_turns 55 = .ok (.getfield 77, 3) := by decide +kernel
theorem dX2_turns_58 : decode cX2_turns 58 = .ok (.iastore, 1) := by decide +kernel
theorem dX2_turns_59 : decode cX2_turns 59 = .ok (.aload_n 0, 1) := by decide +kernel
theorem dX2_turns_60 : decode cX2_turns 60 = .ok (.getfield 36, 3) := by decide +kernel
theorem dX2_turns_63 : decode cX2_turns 63 = .ok (.iconst 5, 1) := by decide +kernel
theorem dX2_turns_64 : decode cX2_turns 64 = .ok (.aload_n 0, 1) := by decide +kernel
theorem dX2_turns_65 : decode cX2_turns 65 = .ok (.aload_n 0, 1) := by decide +kernel
theorem dX2_turns_66 : decode cX2_turns 66 = .ok (.getfield 12, 3) := by decide +kernel
theorem dX2_turns_69 : decode cX2_turns 69 = .ok (.iload_n 1, 1) := by decide +kernel
theorem dX2_turns_70 : decode cX2_turns 70 = .ok (.invokevirtual 116, 3) := by decide +kernel
theorem dX2_turns_73 : decode cX2_turns 73 = .ok (.invokevirtual 138, 3) := by decide +kernel
theorem dX2_turns_76 : decode cX2_turns 76 = .ok (.invokestatic 111, 3) := by decide +kernel
theorem dX2_turns_79 : decode cX2_turns 79 = .ok (.iastore, 1) := by decide +kernel
theorem dX2_turns_80 : decode cX2_turns 80 = .ok (.aload_n 0, 1) := by decide +kernel
theorem dX2_turns_81 : decode cX2_turns 81 = .ok (.getfield 36, 3) := by decide +kernel
theorem dX2_turns_84 : decode cX2_turns 84 = .ok (.bipush 6, 2) := by decide +kernel
theorem dX2_turns_86 : decode cX2_turns 86 = .ok (.aload_n 0, 1) := by decide +kernel
theorem dX2_turns_87 : decode cX2_turns 87 = .ok (.getfield 83, 3) := by decide +kernel
theorem dX2_turns_90 : decode cX2_turns 90 = .ok (.bipush 7, 2) := by decide +kernel
theorem dX2_turns_92 : decode cX2_turns 92 = .ok (.idiv, 1) := by decide +kernel
theorem dX2_turns_93 : decode cX2_turns 93 = .ok (.iastore, 1) := by decide +kernel
theorem dX2_turns_94 : decode cX2_turns 94 = .ok (.aload_n 0, 1) := by decide +kernel
theorem dX2_turns_95 : decode cX2_turns 95 = .ok (.getfield 36, 3) := by decide +kernel
theorem dX2_turns_98 : decode cX2_turns 98 = .ok (.bipush 7, 2) := by decide +kernel
theorem dX2_turns_100 : decode cX2_turns 100 = .ok (.aload_n 0, 1) := by decide +kernel
theorem dX2_turns_101 : decode cX2_turns 101 = .ok (.getfield 12, 3) := by decide +kernel
theorem dX2_turns_104 : decode cX2_turns 104 = .ok (.getfield 119, 3) := by decide +kernel
theorem dX2_turns_107 : decode cX2_turns 107 = .ok (.iload_n 1, 1) := by decide +kernel
theorem dX2_turns_108 : decode cX2_turns 108 = .ok (.invokestatic 104, 3) := by decide +kernel
theorem dX2_turns_111 : decode cX2_turns 111 = .ok (.ifCond .eq 7, 3) := by decide +kernel
theorem dX2_turns_114 : decode cX2_turns 114 = .ok (.iconst 1, 1) := by decide +kernel
theorem dX2_turns_115 : decode cX2_turns 115 = .ok (.goto 4, 3) := by decide +kernel
theorem dX2_turns_118 : decode cX2_turns 118 = .ok (.iconst 0, 1) := by decide +kernel
theorem dX2_turns_119 : decode cX2_turns 119 = .ok (.iastore, 1) := by decide +kernel
theorem dX2_turns_120 : decode cX2_turns 120 = .ok (.aload_n 0, 1) := by decide +kernel
theorem dX2_turns_121 : decode cX2_turns 121 = .ok (.getfield 36, 3) := by decide +kernel
theorem dX2_turns_124 : decode cX2_turns 124 = .ok (.bipush 8, 2) := by decide +kernel
theorem dX2_turns_126 : decode cX2_turns 126 = .ok (.aload_n 0, 1) := by decide +kernel
theorem dX2_turns_127 : decode cX2_turns 127 = .ok (.aload_n 0, 1) := by decide +kernel
theorem dX2_turns_128 : decode cX2_turns 128 = .ok (.getfield 71, 3) := by decide +kernel
theorem dX2_turns_131 : decode cX2_turns 131 = .ok (.aload_n 0, 1) := by decide +kernel
theorem dX2_turns_132 : decode cX2_turns 132 = .ok (.getfield 83, 3) := by decide +kernel
theorem dX2_turns_135 : decode cX2_turns 135 = .ok (.iconst 1, 1) := by decide +kernel
theorem dX2_turns_136 : decode cX2_turns 136 = .ok (.iadd, 1) := by decide +kernel
theorem dX2_turns_137 : decode cX2_turns 137 = .ok (.invokevirtual 96, 3) := by decide +kernel
theorem dX2_turns_140 : decode cX2_turns 140 = .ok (.ifCond .eq 7, 3) := by decide +kernel
theorem dX2_turns_143 : decode cX2_turns 143 = .ok (.iconst 1, 1) := by decide +kernel
theorem dX2_turns_144 : decode cX2_turns 144 = .ok (.goto 4, 3) := by decide +kernel
theorem dX2_turns_147 : decode cX2_turns 147 = .ok (.iconst 0, 1) := by decide +kernel
theorem dX2_turns_148 : decode cX2_turns 148 = .ok (.iastore, 1) := by decide +kernel
theorem dX2_turns_149 : decode cX2_turns 149 = .ok (.aload_n 0, 1) := by decide +kernel
theorem dX2_turns_150 : decode cX2_turns 150 = .ok (.getfield 28, 3) := by decide +kernel
theorem dX2_turns_153 : decode cX2_turns 153 = .ok (.aload_n 0, 1) := by decide +kernel
theorem dX2_turns_154 : decode cX2_turns 154 = .ok (.getfield 36, 3) := by decide +kernel
theorem dX2_turns_157 : decode cX2_turns 157 = .ok (.invokevirtual 141, 3) := by decide +kernel
theorem dX2_turns_160 : decode cX2_turns 160 = .ok (.ireturn, 1) := by decide +kernel
def f_X2_turns (h : Nat) (μ : Mem) (a1 : Int32) : Option (Int32 × Mem) := ix 0 9 (nm (upm μ (h + 1) 11 (Int32.toNatClampNeg 0) a1) fun (μ1 : Mem) => (f_X1_roomOf h μ1 a1).bind fun (q2 : Int32) => ix 1 9 (nm (upm μ1 (h + 1) 11 (Int32.toNatClampNeg 1) q2) fun (μ3 : Mem) => (f_X1_wishOf h μ3 a1).bind fun (q4 : Int32) => ix 2 9 (nm (upm μ3 (h + 1) 11 (Int32.toNatClampNeg 2) q4) fun (μ5 : Mem) => (f_X1_doubtOf h μ5 a1).bind fun (q6 : Int32) => ix 3 9 (nm (upm μ5 (h + 1) 11 (Int32.toNatClampNeg 3) q6) fun (μ7 : Mem) => ix 4 9 (nm (upm μ7 (h + 1) 11 (Int32.toNatClampNeg 4) (μ7 (h + 1) 0 11)) fun (μ8 : Mem) => (f_X1_roomOf h μ8 a1).bind fun (q9 : Int32) => (f_X2_holesFrom h μ8 q9).bind fun (q10 : Int32) => (f_J6_bitCount_0f7a4 q10).bind fun (q11 : Int32) => ix 5 9 (nm (upm μ8 (h + 1) 11 (Int32.toNatClampNeg 5) q11) fun (μ12 : Mem) => ix 6 9 (nm (upm μ12 (h + 1) 11 (Int32.toNatClampNeg 6) ((μ12 (h + 1) 0 13) / 7)) fun (μ13 : Mem) => (f_X9_holds (μ13 (h + 1) 1 4) a1).bind fun (q14 : Int32) => nm (fun (x15 : Int32) => ix 7 9 (nm (upm μ13 (h + 1) 11 (Int32.toNatClampNeg 7) x15) fun (μ16 : Mem) => (f_X2_isSaturday h μ16 (μ16 (h + 1) 0 7) ((μ16 (h + 1) 0 13) + 1)).bind fun (q17 : Int32) => nm (fun (x18 : Int32) => ix 8 9 (nm (upm μ16 (h + 1) 11 (Int32.toNatClampNeg 8) x18) fun (μ19 : Mem) => (f_X4_turnsBy h μ19).bind fun (q20 : Int32 × Mem) => some (q20.1, q20.2))) fun (J148 : Int32 → Option (Int32 × Mem)) => if q17 = 0 then (J148 0) else (J148 1))) fun (J119 : Int32 → Option (Int32 × Mem)) => if q14 = 0 then (J119 0) else (J119 1))))))))
set_option maxHeartbeats 4000000 in
set_option maxRecDepth 100000 in
theorem c_X2_turns (G : GG) (l : Launch) (h : Nat) (hh : h < 15) (μ : Mem) (a1 : Int32) : CI G l yX2_turns (.code yX2_turns cX2_turns 2 (some .int)) 3 [.ref (gad G (h + 1) 0), .int a1] μ (f_X2_turns h μ a1) := by
  refine CI.of (own := "SaturdayKeep$House") (L0 := [some (.ref (gad G (h + 1) 0)), some (.int a1)]) rfl rfl rfl (Nat.le_of_ble_eq_true rfl) (fun C hl hC => ?_)
  subst hl
  delta f_X2_turns
  refine aw_aload_n (pc := 0) (i := 0) hC dX2_turns_0 rfl rfl ?_
  refine aw_get (pc := 1) hC inX2 (vH (j := 0) hh (by decide)) rfl rfl 4 (by decide) kw192 rfl rfl dX2_turns_1 ?_
  refine aw_iconst (pc := 4) (v := 0) hC dX2_turns_4 ic0 ?_
  refine aw_iload_n (pc := 5) (i := 1) hC dX2_turns_5 rfl rfl ?_
  refine aw_iastoreN (pc := 6) hC (vH (j := 11) hh (by decide)) (fun _ => rfl) dX2_turns_6 (fun μ1 => ?_)
  refine aw_aload_n (pc := 7) (i := 0) hC dX2_turns_7 rfl rfl ?_
  refine aw_get (pc := 8) hC inX2 (vH (j := 0) hh (by decide)) rfl rfl 4 (by decide) kw192 rfl rfl dX2_turns_8 ?_
  refine aw_iconst (pc := 11) (v := 1) hC dX2_turns_11 ic1 ?_
  refine aw_aload_n (pc := 12) (i := 0) hC dX2_turns_12 rfl rfl ?_
  refine aw_get (pc := 13) hC inX2 (vH (j := 0) hh (by decide)) rfl rfl 0 (by decide) kw184 rfl rfl dX2_turns_13 ?_
  refine aw_iload_n (pc := 16) (i := 1) hC dX2_turns_16 rfl rfl ?_
  refine aw_callVR (pc := 17) (As := [.int a1]) hC mb_X1_roomOf kw394 (by decide) (c_X1_roomOf G C.2.1 h (Nat.lt_of_lt_of_le hh (by decide)) μ1 a1) (vH (j := 1) hh (by decide)) rfl rfl rfl (Nat.le_of_ble_eq_true rfl) dX2_turns_17 (fun q2 => ?_)
  refine aw_iastoreN (pc := 20) hC (vH (j := 11) hh (by decide)) (fun _ => rfl) dX2_turns_20 (fun μ3 => ?_)
  refine aw_aload_n (pc := 21) (i := 0) hC dX2_turns_21 rfl rfl ?_
  refine aw_get (pc := 22) hC inX2 (vH (j := 0) hh (by decide)) rfl rfl 4 (by decide) kw192 rfl rfl dX2_turns_22 ?_
  refine aw_iconst (pc := 25) (v := 2) hC dX2_turns_25 ic2 ?_
  refine aw_aload_n (pc := 26) (i := 0) hC dX2_turns_26 rfl rfl ?_
  refine aw_get (pc := 27) hC inX2 (vH (j := 0) hh (by decide)) rfl rfl 0 (by decide) kw184 rfl rfl dX2_turns_27 ?_
  refine aw_iload_n (pc := 30) (i := 1) hC dX2_turns_30 rfl rfl ?_
  refine aw_callVR (pc := 31) (As := [.int a1]) hC mb_X1_wishOf kw904 (by decide) (c_X1_wishOf G C.2.1 h (Nat.lt_of_lt_of_le hh (by decide)) μ3 a1) (vH (j := 1) hh (by decide)) rfl rfl rfl (Nat.le_of_ble_eq_true rfl) dX2_turns_31 (fun q4 => ?_)
  refine aw_iastoreN (pc := 34) hC (vH (j := 11) hh (by decide)) (fun _ => rfl) dX2_turns_34 (fun μ5 => ?_)
  refine aw_aload_n (pc := 35) (i := 0) hC dX2_turns_35 rfl rfl ?_
  refine aw_get (pc := 36) hC inX2 (vH (j := 0) hh (by decide)) rfl rfl 4 (by decide) kw192 rfl rfl dX2_turns_36 ?_
  refine aw_iconst (pc := 39) (v := 3) hC dX2_turns_39 ic3 ?_
  refine aw_aload_n (pc := 40) (i := 0) hC dX2_turns_40 rfl rfl ?_
  refine aw_get (pc := 41) hC inX2 (vH (j := 0) hh (by decide)) rfl rfl 0 (by decide) kw184 rfl rfl dX2_turns_41 ?_
  refine aw_iload_n (pc := 44) (i := 1) hC dX2_turns_44 rfl rfl ?_
  refine aw_callVR (pc := 45) (As := [.int a1]) hC mb_X1_doubtOf kw905 (by decide) (c_X1_doubtOf G C.2.1 h (Nat.lt_of_lt_of_le hh (by decide)) μ5 a1) (vH (j := 1) hh (by decide)) rfl rfl rfl (Nat.le_of_ble_eq_true rfl) dX2_turns_45 (fun q6 => ?_)
  refine aw_iastoreN (pc := 48) hC (vH (j := 11) hh (by decide)) (fun _ => rfl) dX2_turns_48 (fun μ7 => ?_)
  refine aw_aload_n (pc := 49) (i := 0) hC dX2_turns_49 rfl rfl ?_
  refine aw_get (pc := 50) hC inX2 (vH (j := 0) hh (by decide)) rfl rfl 4 (by decide) kw192 rfl rfl dX2_turns_50 ?_
  refine aw_iconst (pc := 53) (v := 4) hC dX2_turns_53 ic4 ?_
  refine aw_aload_n (pc := 54) (i := 0) hC dX2_turns_54 rfl rfl ?_
  refine aw_get (pc := 55) hC inX2 (vH (j := 0) hh (by decide)) rfl rfl 11 (by decide) kw207 rfl rfl dX2_turns_55 ?_
  refine aw_iastoreN (pc := 58) hC (vH (j := 11) hh (by decide)) (fun _ => rfl) dX2_turns_58 (fun μ8 => ?_)
  refine aw_aload_n (pc := 59) (i := 0) hC dX2_turns_59 rfl rfl ?_
  refine aw_get (pc := 60) hC inX2 (vH (j := 0) hh (by decide)) rfl rfl 4 (by decide) kw192 rfl rfl dX2_turns_60 ?_
  refine aw_iconst (pc := 63) (v := 5) hC dX2_turns_63 ic5 ?_
  refine aw_aload_n (pc := 64) (i := 0) hC dX2_turns_64 rfl rfl ?_
  refine aw_aload_n (pc := 65) (i := 0) hC dX2_turns_65 rfl rfl ?_
  refine aw_get (pc := 66) hC inX2 (vH (j := 0) hh (by decide)) rfl rfl 0 (by decide) kw184 rfl rfl dX2_turns_66 ?_
  refine aw_iload_n (pc := 69) (i := 1) hC dX2_turns_69 rfl rfl ?_
  refine aw_callVR (pc := 70) (As := [.int a1]) hC mb_X1_roomOf kw394 (by decide) (c_X1_roomOf G C.2.1 h (Nat.lt_of_lt_of_le hh (by decide)) μ8 a1) (vH (j := 1) hh (by decide)) rfl rfl rfl (Nat.le_of_ble_eq_true rfl) dX2_turns_70 (fun q9 => ?_)
  refine aw_callVR (pc := 73) (As := [.int q9]) hC mb_X2_holesFrom kw906 (by decide) (c_X2_holesFrom G C.2.1 h (Nat.lt_of_lt_of_le hh (by decide)) μ8 q9) (vH (j := 0) hh (by decide)) rfl rfl rfl (Nat.le_of_ble_eq_true rfl) dX2_turns_73 (fun q10 => ?_)
  refine aw_callSR (pc := 76) (As := [.int q10]) hC ms_J6_bitCount_0f7a4 kw572 (by decide) (c_J6_bitCount_0f7a4 G C.2.1   μ8 q10) rfl (Nat.le_of_ble_eq_true rfl) dX2_turns_76 (fun q11 => ?_)
  refine aw_iastoreN (pc := 79) hC (vH (j := 11) hh (by decide)) (fun _ => rfl) dX2_turns_79 (fun μ12 => ?_)
  refine aw_aload_n (pc := 80) (i := 0) hC dX2_turns_80 rfl rfl ?_
  refine aw_get (pc := 81) hC inX2 (vH (j := 0) hh (by decide)) rfl rfl 4 (by decide) kw192 rfl rfl dX2_turns_81 ?_
  refine aw_bipush (pc := 84) (v := 6) hC dX2_turns_84 bc6 ?_
  refine aw_aload_n (pc := 86) (i := 0) hC dX2_turns_86 rfl rfl ?_
  refine aw_get (pc := 87) hC inX2 (vH (j := 0) hh (by decide)) rfl rfl 13 (by decide) kw212 rfl rfl dX2_turns_87 ?_
  refine aw_bipush (pc := 90) (v := 7) hC dX2_turns_90 bc7 ?_
  refine aw_idiv (pc := 92) hC dX2_turns_92 (by decide) ?_
  refine aw_iastoreN (pc := 93) hC (vH (j := 11) hh (by decide)) (fun _ => rfl) dX2_turns_93 (fun μ13 => ?_)
  refine aw_aload_n (pc := 94) (i := 0) hC dX2_turns_94 rfl rfl ?_
  refine aw_get (pc := 95) hC inX2 (vH (j := 0) hh (by decide)) rfl rfl 4 (by decide) kw192 rfl rfl dX2_turns_95 ?_
  refine aw_bipush (pc := 98) (v := 7) hC dX2_turns_98 bc7 ?_
  refine aw_aload_n (pc := 100) (i := 0) hC dX2_turns_100 rfl rfl ?_
  refine aw_get (pc := 101) hC inX2 (vH (j := 0) hh (by decide)) rfl rfl 0 (by decide) kw184 rfl rfl dX2_turns_101 ?_
  refine aw_get (pc := 104) hC inX1 (vH (j := 1) hh (by decide)) rfl rfl 4 (by decide) kw148 rfl rfl dX2_turns_104 ?_
  refine aw_iload_n (pc := 107) (i := 1) hC dX2_turns_107 rfl rfl ?_
  refine aw_callNR (pc := 108) (As := [.int (μ13 (h + 1) 1 4), .int a1]) hC ms_X9_holds kw387 (by decide) (c_X9_holds G C.2.1   μ13 (μ13 (h + 1) 1 4) a1) rfl (Nat.le_of_ble_eq_true rfl) dX2_turns_108 (fun q14 => ?_)
  refine aw_nmJ (fun (J119 : Int32 → Option (Int32 × Mem)) => ∀ (x15 : Int32), AW G C (qI G C 0 0) 0 0 2 μ13 119 [some (.ref (gad G (h + 1) 0)), none] [.int x15, .int 7, .ref (gad G (h + 1) 11)] (J119 x15)) (fun x15 => ?_) (fun J119 hJ119 => ?_)
  · skip
    refine aw_iastoreN (pc := 119) hC (vH (j := 11) hh (by decide)) (fun _ => rfl) dX2_turns_119 (fun μ16 => ?_)
    refine aw_aload_n (pc := 120) (i := 0) hC dX2_turns_120 rfl rfl ?_
    refine aw_get (pc := 121) hC inX2 (vH (j := 0) hh (by decide)) rfl rfl 4 (by decide) kw192 rfl rfl dX2_turns_121 ?_
    refine aw_bipush (pc := 124) (v := 8) hC dX2_turns_124 bc8 ?_
    refine aw_aload_n (pc := 126) (i := 0) hC dX2_turns_126 rfl rfl ?_
    refine aw_aload_n (pc := 127) (i := 0) hC dX2_turns_127 rfl rfl ?_
    refine aw_get (pc := 128) hC inX2 (vH (j := 0) hh (by decide)) rfl rfl 7 (by decide) kw195 rfl rfl dX2_turns_128 ?_
    refine aw_aload_n (pc := 131) (i := 0) hC dX2_turns_131 rfl rfl ?_
    refine aw_get (pc := 132) hC inX2 (vH (j := 0) hh (by decide)) rfl rfl 13 (by decide) kw212 rfl rfl dX2_turns_132 ?_
    refine aw_iconst (pc := 135) (v := 1) hC dX2_turns_135 ic1 ?_
    refine aw_iadd (pc := 136) hC dX2_turns_136 ?_
    refine aw_callVR (pc := 137) (As := [.int (μ16 (h + 1) 0 7), .int ((μ16 (h + 1) 0 13) + 1)]) hC mb_X2_isSaturday kw334 (by decide) (c_X2_isSaturday G C.2.1 h (Nat.lt_of_lt_of_le hh (by decide)) μ16 (μ16 (h + 1) 0 7) ((μ16 (h + 1) 0 13) + 1)) (vH (j := 0) hh (by decide)) rfl rfl rfl (Nat.le_of_ble_eq_true rfl) dX2_turns_137 (fun q17 => ?_)
    refine aw_nmJ (fun (J148 : Int32 → Option (Int32 × Mem)) => ∀ (x18 : Int32), AW G C (qI G C 0 0) 0 0 2 μ16 148 [some (.ref (gad G (h + 1) 0)), none] [.int x18, .int 8, .ref (gad G (h + 1) 11)] (J148 x18)) (fun x18 => ?_) (fun J148 hJ148 => ?_)
    · skip
      refine aw_iastoreN (pc := 148) hC (vH (j := 11) hh (by decide)) (fun _ => rfl) dX2_turns_148 (fun μ19 => ?_)
      refine aw_aload_n (pc := 149) (i := 0) hC dX2_turns_149 rfl rfl ?_
      refine aw_get (pc := 150) hC inX2 (vH (j := 0) hh (by decide)) rfl rfl 2 (by decide) kw189 rfl rfl dX2_turns_150 ?_
      refine aw_aload_n (pc := 153) (i := 0) hC dX2_turns_153 rfl rfl ?_
      refine aw_get (pc := 154) hC inX2 (vH (j := 0) hh (by decide)) rfl rfl 4 (by decide) kw192 rfl rfl dX2_turns_154 ?_
      refine aw_callVI (pc := 157) (As := [.ref (gad G (h + 1) 11)]) hC mb_X4_turnsBy kw907 (by decide) (c_X4_turnsBy G C.2.1 h (Nat.lt_of_lt_of_le hh (by decide)) μ19 ) (vH (j := 7) hh (by decide)) rfl rfl rfl (Nat.le_of_ble_eq_true rfl) dX2_turns_157 (fun q20 => ?_)
      exact aw_iret hC dX2_turns_160
    · skip
      refine aw_if_eq (pc := 140) (tgt := 147) hC dX2_turns_140 (by decide) (fun _ => ?_) (fun _ => ?_)
      · skip
        refine aw_iconst (pc := 147) (v := 0) hC dX2_turns_147 ic0 ?_
        exact hJ148 0
      · skip
        refine aw_iconst (pc := 143) (v := 1) hC dX2_turns_143 ic1 ?_
        refine aw_goto (pc := 144) (tgt := 148) hC dX2_turns_144 (by decide) ?_
        exact hJ148 1
  · skip
    refine aw_if_eq (pc := 111) (tgt := 118) hC dX2_turns_111 (by decide) (fun _ => ?_) (fun _ => ?_)
    · skip
      refine aw_iconst (pc := 118) (v := 0) hC dX2_turns_118 ic0 ?_
      exact aw_drop [1] (hJ119 0)
    · skip
      refine aw_iconst (pc := 114) (v := 1) hC dX2_turns_114 ic1 ?_
      refine aw_goto (pc := 115) (tgt := 119) hC dX2_turns_115 (by decide) ?_
      exact aw_drop [1] (hJ119 1)
theorem dX2_untilSaturday_0 : decode cX2_untilSaturday 0 = .ok (.bipush 6, 2) := by decide +kernel
theorem dX2_untilSaturday_2 : decode cX2_untilSaturday 2 = .ok (.aload_n 0, 1) := by decide +kernel
theorem dX2_untilSaturday_3 : decode cX2_untilSaturday 3 = .ok (.getfield 83, 3) := by decide +kernel
theorem dX2_untilSaturday_6 : decode cX2_untilSaturday 6 = .ok (.aload_n 0, 1) := by decide +kernel
theorem dX2_untilSaturday_7 : decode cX2_untilSaturday 7 = .ok (.iload_n 1, 1) := by decide +kernel
theorem dX2_untilSaturday_8 : decode cX2_untilSaturday 8 = .ok (.invokevirtual 92, 3) := by decide +kernel
theorem dX2_untilSaturday_11 : decode cX2_untilSaturday 11 = .ok (.iadd, 1) := by decide +kernel
theorem dX2_untilSaturday_12 : decode cX2_untilSaturday 12 = .ok (.bipush 7, 2) := by decide +kernel
theorem dX2_untilSaturday_14 : decode cX2_untilSaturday 14 = .ok (.irem, 1) := by decide +kernel
theorem dX2_untilSaturday_15 : decode cX2_untilSaturday 15 = .ok (.isub, 1) := by decide +kernel
theorem dX2_untilSaturday_16 : decode cX2_untilSaturday 16 = .ok (.ireturn, 1) := by decide +kernel
def f_X2_untilSaturday (h : Nat) (μ : Mem) (a1 : Int32) : Option (Int32) := (f_X2_shiftOf h μ a1).bind fun (q1 : Int32) => some (6 - (jrem ((μ (h + 1) 0 13) + q1) 7))
set_option maxHeartbeats 4000000 in
set_option maxRecDepth 100000 in
theorem c_X2_untilSaturday (G : GG) (l : Launch) (h : Nat) (hh : h < 15) (μ : Mem) (a1 : Int32) : CR G l yX2_untilSaturday (.code yX2_untilSaturday cX2_untilSaturday 2 (some .int)) 2 [.ref (gad G (h + 1) 0), .int a1] μ (f_X2_untilSaturday h μ a1) := by
  refine CR.of (own := "SaturdayKeep$House") (L0 := [some (.ref (gad G (h + 1) 0)), some (.int a1)]) rfl rfl rfl (Nat.le_of_ble_eq_true rfl) (fun C hl hC => ?_)
  subst hl
  delta f_X2_untilSaturday
  refine aw_bipush (pc := 0) (v := 6) hC dX2_untilSaturday_0 bc6 ?_
  refine aw_aload_n (pc := 2) (i := 0) hC dX2_untilSaturday_2 rfl rfl ?_
  refine aw_get (pc := 3) hC inX2 (vH (j := 0) hh (by decide)) rfl rfl 13 (by decide) kw212 rfl rfl dX2_untilSaturday_3 ?_
  refine aw_aload_n (pc := 6) (i := 0) hC dX2_untilSaturday_6 rfl rfl ?_
  refine aw_iload_n (pc := 7) (i := 1) hC dX2_untilSaturday_7 rfl rfl ?_
  refine aw_callVR (pc := 8) (As := [.int a1]) hC mb_X2_shiftOf kw338 (by decide) (c_X2_shiftOf G C.2.1 h (Nat.lt_of_lt_of_le hh (by decide)) μ a1) (vH (j := 0) hh (by decide)) rfl rfl rfl (Nat.le_of_ble_eq_true rfl) dX2_untilSaturday_8 (fun q1 => ?_)
  refine aw_iadd (pc := 11) hC dX2_untilSaturday_11 ?_
  refine aw_bipush (pc := 12) (v := 7) hC dX2_untilSaturday_12 bc7 ?_
  refine aw_irem (pc := 14) hC dX2_untilSaturday_14 (by decide) ?_
  refine aw_isub (pc := 15) hC dX2_untilSaturday_15 ?_
  exact aw_iretR hC dX2_untilSaturday_16
theorem dX2_turnDoubts_0 : decode cX2_turnDoubts 0 = .ok (.iconst 0, 1) := by decide +kernel
theorem dX2_turnDoubts_1 : decode cX2_turnDoubts 1 = .ok (.istore_n 2, 1) := by decide +kernel
theorem dX2_turnDoubts_2 : decode cX2_turnDoubts 2 = .ok (.iload_n 2, 1) := by decide +kernel
theorem dX2_turnDoubts_3 : decode cX2_turnDoubts 3 = .ok (.bipush 8, 2) := by decide +kernel
theorem dX2_turnDoubts_5 : decode cX2_turnDoubts 5 = .ok (.if_icmp .ge 39, 3) := by decide +kernel
theorem dX2_turnDoubts_8 : decode cX2_turnDoubts 8 = .ok (.iload_n 1, 1) := by decide +kernel
theorem dX2_turnDoubts_9 : decode cX2_turnDoubts 9 = .ok (.iload_n 2, 1) := by decide +kernel
theorem dX2_turnDoubts_10 : decode cX2_turnDoubts 10 = .ok (.invokestatic 104, 3) := by decide +kernel
theorem dX2_turnDoubts_13 : decode cX2_turnDoubts 13 = .ok (.ifCond .eq 25, 3) := by decide +kernel
theorem dX2_turnDoubts_16 : decode cX2_turnDoubts 16 = .ok (.aload_n 0, 1) := by decide +kernel
theorem dX2_turnDoubts_17 : decode cX2_turnDoubts 17 = .ok (.getfield 12, 3) := by decide +kernel
theorem dX2_turnDoubts_20 : decode cX2_turnDoubts 20 = .ok (.iload_n 2, 1) := by decide +kernel
theorem dX2_turnDoubts_21 : decode cX2_turnDoubts 21 = .ok (.aload_n 0, 1) := by decide +kernel
theorem dX2_turnDoubts_22 : decode cX2_turnDoubts 22 = .ok (.getfield 12, 3) := by decide +kernel
theorem dX2_turnDoubts_25 : decode cX2_turnDoubts 25 = .ok (.iload_n 2, 1) := by decide +kernel
theorem dX2_turnDoubts_26 : decode cX2_turnDoubts 26 = .ok (.invokevirtual 135, 3) := by decide +kernel
theorem dX2_turnDoubts_29 : decode cX2_turnDoubts 29 = .ok (.aload_n 0, 1) := by decide +kernel
theorem dX2_turnDoubts_30 : decode cX2_turnDoubts 30 = .ok (.iload_n 2, 1) := by decide +kernel
theorem dX2_turnDoubts_31 : decode cX2_turnDoubts 31 = .ok (.invokevirtual 164, 3) := by decide +kernel
theorem dX2_turnDoubts_34 : decode cX2_turnDoubts 34 = .ok (.iadd, 1) := by decide +kernel
theorem dX2_turnDoubts_35 : decode cX2_turnDoubts 35 = .ok (.invokevirtual 167, 3) := by decide +kernel
theorem dX2_turnDoubts_38 : decode cX2_turnDoubts 38 = .ok (.iinc 2 1, 3) := by decide +kernel
theorem dX2_turnDoubts_41 : decode cX2_turnDoubts 41 = .ok (.goto (-39), 3) := by decide +kernel
theorem dX2_turnDoubts_44 : decode cX2_turnDoubts 44 = .ok (.return_, 1) := by decide +kernel
def lp_X2_turnDoubts_2 (a1 : Int32) (h : Nat) : Nat → Int32 → Mem → Option (Mem)
  | 0, _, _ => none
  | n + 1, x1, μ2 => if 8 ≤ x1 then (some μ2) else ((f_X9_holds a1 x1).bind fun (q3 : Int32) => if q3 = 0 then (lp_X2_turnDoubts_2 a1 h n (x1 + 1) μ2) else ((f_X1_doubtOf h μ2 x1).bind fun (q4 : Int32) => (f_X2_turns h μ2 x1).bind fun (q5 : Int32 × Mem) => (f_X1_setDoubt h q5.2 x1 (q4 + q5.1)).bind fun (q6 : Mem) => lp_X2_turnDoubts_2 a1 h n (x1 + 1) q6))
def f_X2_turnDoubts (h : Nat) (μ : Mem) (a1 : Int32) : Option (Mem) := lp_X2_turnDoubts_2 a1 h 4096 0 μ
set_option maxHeartbeats 4000000 in
set_option maxRecDepth 100000 in
theorem c_X2_turnDoubts (G : GG) (l : Launch) (h : Nat) (hh : h < 15) (μ : Mem) (a1 : Int32) : CV G l yX2_turnDoubts (.code yX2_turnDoubts cX2_turnDoubts 3 none) 4 [.ref (gad G (h + 1) 0), .int a1] μ (f_X2_turnDoubts h μ a1) := by
  refine CV.of (own := "SaturdayKeep$House") (L0 := [some (.ref (gad G (h + 1) 0)), some (.int a1), none]) rfl rfl rfl (Nat.le_of_ble_eq_true rfl) (fun C hl hC => ?_)
  subst hl
  delta f_X2_turnDoubts
  refine aw_iconst (pc := 0) (v := 0) hC dX2_turnDoubts_0 ic0 ?_
  refine aw_istore_n (pc := 1) (i := 2) hC dX2_turnDoubts_1 rfl rfl (by decide) ?_
  have hL2 : ∀ (n : Nat) (x1 : Int32) (μ2 : Mem), AW G C (qV G C 0 0) 0 0 3 μ2 2 [some (.ref (gad G (h + 1) 0)), some (.int a1), some (.int x1)] [] (lp_X2_turnDoubts_2 a1 h n x1 μ2) := by
    intro n
    induction n with
    | zero => intro x1 μ2; exact aw_none
    | succ n ih =>
      intro x1 μ2
      rw [lp_X2_turnDoubts_2]
      refine aw_iload_n (pc := 2) (i := 2) hC dX2_turnDoubts_2 rfl rfl ?_
      refine aw_bipush (pc := 3) (v := 8) hC dX2_turnDoubts_3 bc8 ?_
      refine aw_icmp_ge (pc := 5) (tgt := 44) hC dX2_turnDoubts_5 (by decide) (fun _ => ?_) (fun _ => ?_)
      · skip
        exact aw_vret hC dX2_turnDoubts_44
      · skip
        refine aw_iload_n (pc := 8) (i := 1) hC dX2_turnDoubts_8 rfl rfl ?_
        refine aw_iload_n (pc := 9) (i := 2) hC dX2_turnDoubts_9 rfl rfl ?_
        refine aw_callNR (pc := 10) (As := [.int a1, .int x1]) hC ms_X9_holds kw387 (by decide) (c_X9_holds G C.2.1   μ2 a1 x1) rfl (Nat.le_of_ble_eq_true rfl) dX2_turnDoubts_10 (fun q3 => ?_)
        refine aw_if_eq (pc := 13) (tgt := 38) hC dX2_turnDoubts_13 (by decide) (fun _ => ?_) (fun _ => ?_)
        · skip
          refine aw_iinc (pc := 38) (v := x1 + 1) hC dX2_turnDoubts_38 rfl (congrArg (HAdd.hAdd _) ic1) rfl (by decide) ?_
          refine aw_goto (pc := 41) (tgt := 2) hC dX2_turnDoubts_41 (by decide) ?_
          exact ih (x1 + 1) μ2
        · skip
          refine aw_aload_n (pc := 16) (i := 0) hC dX2_turnDoubts_16 rfl rfl ?_
          refine aw_get (pc := 17) hC inX2 (vH (j := 0) hh (by decide)) rfl rfl 0 (by decide) kw184 rfl rfl dX2_turnDoubts_17 ?_
          refine aw_iload_n (pc := 20) (i := 2) hC dX2_turnDoubts_20 rfl rfl ?_
          refine aw_aload_n (pc := 21) (i := 0) hC dX2_turnDoubts_21 rfl rfl ?_
          refine aw_get (pc := 22) hC inX2 (vH (j := 0) hh (by decide)) rfl rfl 0 (by decide) kw184 rfl rfl dX2_turnDoubts_22 ?_
          refine aw_iload_n (pc := 25) (i := 2) hC dX2_turnDoubts_25 rfl rfl ?_
          refine aw_callVR (pc := 26) (As := [.int x1]) hC mb_X1_doubtOf kw905 (by decide) (c_X1_doubtOf G C.2.1 h (Nat.lt_of_lt_of_le hh (by decide)) μ2 x1) (vH (j := 1) hh (by decide)) rfl rfl rfl (Nat.le_of_ble_eq_true rfl) dX2_turnDoubts_26 (fun q4 => ?_)
          refine aw_aload_n (pc := 29) (i := 0) hC dX2_turnDoubts_29 rfl rfl ?_
          refine aw_iload_n (pc := 30) (i := 2) hC dX2_turnDoubts_30 rfl rfl ?_
          refine aw_callVI (pc := 31) (As := [.int x1]) hC mb_X2_turns kw1079 (by decide) (c_X2_turns G C.2.1 h (Nat.lt_of_lt_of_le hh (by decide)) μ2 x1) (vH (j := 0) hh (by decide)) rfl rfl rfl (Nat.le_of_ble_eq_true rfl) dX2_turnDoubts_31 (fun q5 => ?_)
          refine aw_iadd (pc := 34) hC dX2_turnDoubts_34 ?_
          refine aw_callVV (pc := 35) (As := [.int x1, .int (q4 + q5.1)]) hC mb_X1_setDoubt kw1080 (by decide) (c_X1_setDoubt G C.2.1 h (Nat.lt_of_lt_of_le hh (by decide)) q5.2 x1 (q4 + q5.1)) (vH (j := 1) hh (by decide)) rfl rfl rfl (Nat.le_of_ble_eq_true rfl) dX2_turnDoubts_35 (fun q6 => ?_)
          refine aw_iinc (pc := 38) (v := x1 + 1) hC dX2_turnDoubts_38 rfl (congrArg (HAdd.hAdd _) ic1) rfl (by decide) ?_
          refine aw_goto (pc := 41) (tgt := 2) hC dX2_turnDoubts_41 (by decide) ?_
          exact ih (x1 + 1) q6
  exact hL2 4096 0 μ
theorem dX2_draw_0 : decode cX2_draw 0 = .ok (.aload_n 0, 1) := by decide +kernel
theorem dX2_draw_1 : decode cX2_draw 1 = .ok (.ldc 189, 2) := by decide +kernel
theorem dX2_draw_3 : decode cX2_draw 3 = .ok (.aload_n 0, 1) := by decide +kernel
theorem dX2_draw_4 : decode cX2_draw 4 = .ok (.getfield 52, 3) := by decide +kernel
theorem dX2_draw_7 : decode cX2_draw 7 = .ok (.imul, 1) := by decide +kernel
theorem dX2_draw_8 : decode cX2_draw 8 = .ok (.sipush 12345, 3) := by decide +kernel
theorem dX2_draw_11 : decode cX2_draw 11 = .ok (.iadd, 1) := by decide +kernel
theorem dX2_draw_12 : decode cX2_draw 12 = .ok (.putfield 52, 3) := by decide +kernel
theorem dX2_draw_15 : decode cX2_draw 15 = .ok (.aload_n 0, 1) := by decide +kernel
theorem dX2_draw_16 : decode cX2_draw 16 = .ok (.getfield 52, 3) := by decide +kernel
theorem dX2_draw_19 : decode cX2_draw 19 = .ok (.bipush 16, 2) := by decide +kernel
theorem dX2_draw_21 : decode cX2_draw 21 = .ok (.iushr, 1) := by decide +kernel
theorem dX2_draw_22 : decode cX2_draw 22 = .ok (.sipush 32767, 3) := by decide +kernel
theorem dX2_draw_25 : decode cX2_draw 25 = .ok (.iand, 1) := by decide +kernel
theorem dX2_draw_26 : decode cX2_draw 26 = .ok (.ireturn, 1) := by decide +kernel
def f_X2_draw (h : Nat) (μ : Mem) : Option (Int32 × Mem) := nm (upm μ (h + 1) 0 15 ((1103515245 * (μ (h + 1) 0 15)) + 12345)) fun (μ1 : Mem) => some (((jushr (μ1 (h + 1) 0 15) 16) &&& 32767), μ1)
set_option maxHeartbeats 4000000 in
set_option maxRecDepth 100000 in
theorem c_X2_draw (G : GG) (l : Launch) (h : Nat) (hh : h < 15) (μ : Mem) : CI G l yX2_draw (.code yX2_draw cX2_draw 1 (some .int)) 1 [.ref (gad G (h + 1) 0)] μ (f_X2_draw h μ) := by
  refine CI.of (own := "SaturdayKeep$House") (L0 := [some (.ref (gad G (h + 1) 0))]) rfl rfl rfl (Nat.le_of_ble_eq_true rfl) (fun C hl hC => ?_)
  subst hl
  delta f_X2_draw
  refine aw_aload_n (pc := 0) (i := 0) hC dX2_draw_0 rfl rfl ?_
  refine aw_ldc (pc := 1) hC kw1090 dX2_draw_1 ?_
  refine aw_aload_n (pc := 3) (i := 0) hC dX2_draw_3 rfl rfl ?_
  refine aw_get (pc := 4) hC inX2 (vH (j := 0) hh (by decide)) rfl rfl 15 (by decide) kw217 rfl rfl dX2_draw_4 ?_
  refine aw_imul (pc := 7) hC dX2_draw_7 ?_
  refine aw_sipush (pc := 8) (v := 12345) hC dX2_draw_8 sc12345 ?_
  refine aw_iadd (pc := 11) hC dX2_draw_11 ?_
  refine aw_putIN (pc := 12) hC inX2 (vH (j := 0) hh (by decide)) rfl rfl 15 (by decide) kw217 rfl tyX2 tyX2_ok nmX2 rfl rfl (Nat.le_of_ble_eq_true rfl) rfl dX2_draw_12 (fun μ1 => ?_)
  refine aw_aload_n (pc := 15) (i := 0) hC dX2_draw_15 rfl rfl ?_
  refine aw_get (pc := 16) hC inX2 (vH (j := 0) hh (by decide)) rfl rfl 15 (by decide) kw217 rfl rfl dX2_draw_16 ?_
  refine aw_bipush (pc := 19) (v := 16) hC dX2_draw_19 bc16 ?_
  refine aw_iushr (pc := 21) hC dX2_draw_21 ?_
  refine aw_sipush (pc := 22) (v := 32767) hC dX2_draw_22 sc32767 ?_
  refine aw_iand (pc := 25) hC dX2_draw_25 ?_
  exact aw_iret hC dX2_draw_26
theorem dX2_lookAtBath_0 : decode cX2_lookAtBath 0 = .ok (.aload_n 0, 1) := by decide +kernel
theorem dX2_lookAtBath_1 : decode cX2_lookAtBath 1 = .ok (.aload_n 0, 1) := by decide +kernel
theorem dX2_lookAtBath_2 : decode cX2_lookAtBath 2 = .ok (.getfield 74, 3) := by decide +kernel
theorem dX2_lookAtBath_5 : decode cX2_lookAtBath 5 = .ok (.invokevirtual 171, 3) := by decide +kernel
theorem dX2_lookAtBath_8 : decode cX2_lookAtBath 8 = .ok (.istore_n 1, 1) := by decide +kernel
theorem dX2_lookAtBath_9 : decode cX2_lookAtBath 9 = .ok (.iconst 0, 1) := by decide +kernel
theorem dX2_lookAtBath_10 : decode cX2_lookAtBath 10 = .ok (.istore_n 2, 1) := by decide +kernel
theorem dX2_lookAtBath_11 : decode cX2_lookAtBath 11 = .ok (.iload_n 2, 1) := by decide +kernel
theorem dX2_lookAtBath_12 : decode cX2_lookAtBath 12 = .ok (.bipush 8, 2) := by decide +kernel
theorem dX2_lookAtBath_14 : decode cX2_lookAtBath 14 = .ok (.if_icmp .ge 79, 3) := by decide +kernel
theorem dX2_lookAtBath_17 : decode cX2_lookAtBath 17 = .ok (.iload_n 1, 1) := by decide +kernel
theorem dX2_lookAtBath_18 : decode cX2_lookAtBath 18 = .ok (.iload_n 2, 1) := by decide +kernel
theorem dX2_lookAtBath_19 : decode cX2_lookAtBath 19 = .ok (.invokestatic 104, 3) := by decide +kernel
theorem dX2_lookAtBath_22 : decode cX2_lookAtBath 22 = .ok (.ifCond .eq 65, 3) := by decide +kernel
theorem dX2_lookAtBath_25 : decode cX2_lookAtBath 25 = .ok (.aload_n 0, 1) := by decide +kernel
theorem dX2_lookAtBath_26 : decode cX2_lookAtBath 26 = .ok (.invokevirtual 174, 3) := by decide +kernel
theorem dX2_lookAtBath_29 : decode cX2_lookAtBath 29 = .ok (.bipush 10, 2) := by decide +kernel
theorem dX2_lookAtBath_31 : decode cX2_lookAtBath 31 = .ok (.irem, 1) := by decide +kernel
theorem dX2_lookAtBath_32 : decode cX2_lookAtBath 32 = .ok (.aload_n 0, 1) := by decide +kernel
theorem dX2_lookAtBath_33 : decode cX2_lookAtBath 33 = .ok (.getfield 12, 3) := by decide +kernel
theorem dX2_lookAtBath_36 : decode cX2_lookAtBath 36 = .ok (.iload_n 2, 1) := by decide +kernel
theorem dX2_lookAtBath_37 : decode cX2_lookAtBath 37 = .ok (.invokevirtual 178, 3) := by decide +kernel
theorem dX2_lookAtBath_40 : decode cX2_lookAtBath 40 = .ok (.if_icmp .ge 47, 3) := by decide +kernel
theorem dX2_lookAtBath_43 : decode cX2_lookAtBath 43 = .ok (.aload_n 0, 1) := by decide +kernel
theorem dX2_lookAtBath_44 : decode cX2_lookAtBath 44 = .ok (.dup, 1) := by decide +kernel
theorem dX2_lookAtBath_45 : decode cX2_lookAtBath 45 = .ok (.getfield 86, 3) := by decide +kernel
theorem dX2_lookAtBath_48 : decode cX2_lookAtBath 48 = .ok (.iconst 1, 1) := by decide +kernel
theorem dX2_lookAtBath_49 : decode cX2_lookAtBath 49 = .ok (.iadd, 1) := by decide +kernel
theorem dX2_lookAtBath_50 : decode cX2_lookAtBath 50 = .ok (.putfield 86, 3) := by decide +kernel
theorem dX2_lookAtBath_53 : decode cX2_lookAtBath 53 = .ok (.aload_n 0, 1) := by decide +kernel
theorem dX2_lookAtBath_54 : decode cX2_lookAtBath 54 = .ok (.getfield 12, 3) := by decide +kernel
theorem dX2_lookAtBath_57 : decode cX2_lookAtBath 57 = .ok (.iload_n 2, 1) := by decide +kernel
theorem dX2_lookAtBath_58 : decode cX2_lookAtBath 58 = .ok (.bipush 99, 2) := by decide +kernel
theorem dX2_lookAtBath_60 : decode cX2_lookAtBath 60 = .ok (.invokevirtual 167, 3) := by decide +kernel
theorem dX2_lookAtBath_63 : decode cX2_lookAtBath 63 = .ok (.aload_n 0, 1) := by decide +kernel
theorem dX2_lookAtBath_64 : decode cX2_lookAtBath 64 = .ok (.getfield 21, 3) := by decide +kernel
theorem dX2_lookAtBath_67 : decode cX2_lookAtBath 67 = .ok (.aload_n 0, 1) := by decide +kernel
theorem dX2_lookAtBath_68 : decode cX2_lookAtBath 68 = .ok (.getfield 83, 3) := by decide +kernel
theorem dX2_lookAtBath_71 : decode cX2_lookAtBath 71 = .ok (.iload_n 2, 1) := by decide +kernel
theorem dX2_lookAtBath_72 : decode cX2_lookAtBath 72 = .ok (.aload_n 0, 1) := by decide +kernel
theorem dX2_lookAtBath_73 : decode cX2_lookAtBath 73 = .ok (.getfield 12, 3) := by decide +kernel
theorem dX2_lookAtBath_76 : decode cX2_lookAtBath 76 = .ok (.iload_n 2, 1) := by decide +kernel
theorem dX2_lookAtBath_77 : decode cX2_lookAtBath 77 = .ok (.invokevirtual 116, 3) := by decide +kernel
theorem dX2_lookAtBath_80 : decode cX2_lookAtBath 80 = .ok (.aload_n 0, 1) := by decide +kernel
theorem dX2_lookAtBath_81 : decode cX2_lookAtBath 81 = .ok (.getfield 74, 3) := by decide +kernel
theorem dX2_lookAtBath_84 : decode cX2_lookAtBath 84 = .ok (.invokevirtual 181, 3) := by decide +kernel
theorem dX2_lookAtBath_87 : decode cX2_lookAtBath 87 = .ok (.iinc 2 1, 3) := by decide +kernel
theorem dX2_lookAtBath_90 : decode cX2_lookAtBath 90 = .ok (.goto (-79), 3) := by decide +kernel
theorem dX2_lookAtBath_93 : decode cX2_lookAtBath 93 = .ok (.return_, 1) := by decide +kernel
def lp_X2_lookAtBath_11 (h : Nat) (q1 : Int32) : Nat → Int32 → Mem → Option (Mem)
  | 0, _, _ => none
  | n + 1, x2, μ3 => if 8 ≤ x2 then (some μ3) else ((f_X9_holds q1 x2).bind fun (q4 : Int32) => if q4 = 0 then (lp_X2_lookAtBath_11 h q1 n (x2 + 1) μ3) else ((f_X2_draw h μ3).bind fun (q5 : Int32 × Mem) => (f_X1_risk h q5.2 x2).bind fun (q6 : Int32) => if q6 ≤ (jrem q5.1 10) then (lp_X2_lookAtBath_11 h q1 n (x2 + 1) q5.2) else (nm (upm q5.2 (h + 1) 0 14 ((q5.2 (h + 1) 0 14) + 1)) fun (μ7 : Mem) => (f_X1_setDoubt h μ7 x2 99).bind fun (q8 : Mem) => (f_X1_roomOf h q8 x2).bind fun (q9 : Int32) => (f_X0_add h q8 (q8 (h + 1) 0 13) x2 q9 (q8 (h + 1) 0 8)).bind fun (q10 : Mem) => lp_X2_lookAtBath_11 h q1 n (x2 + 1) q10)))
def f_X2_lookAtBath (h : Nat) (μ : Mem) : Option (Mem) := (f_X2_watchers h μ (μ (h + 1) 0 8)).bind fun (q1 : Int32) => lp_X2_lookAtBath_11 h q1 4096 0 μ
set_option maxHeartbeats 4000000 in
set_option maxRecDepth 100000 in
theorem c_X2_lookAtBath (G : GG) (l : Launch) (h : Nat) (hh : h < 15) (μ : Mem) : CV G l yX2_lookAtBath (.code yX2_lookAtBath cX2_lookAtBath 3 none) 5 [.ref (gad G (h + 1) 0)] μ (f_X2_lookAtBath h μ) := by
  refine CV.of (own := "SaturdayKeep$House") (L0 := [some (.ref (gad G (h + 1) 0)), none, none]) rfl rfl rfl (Nat.le_of_ble_eq_true rfl) (fun C hl hC => ?_)
  subst hl
  delta f_X2_lookAtBath
  refine aw_aload_n (pc := 0) (i := 0) hC dX2_lookAtBath_0 rfl rfl ?_
  refine aw_aload_n (pc := 1) (i := 0) hC dX2_lookAtBath_1 rfl rfl ?_
  refine aw_get (pc := 2) hC inX2 (vH (j := 0) hh (by decide)) rfl rfl 8 (by decide) kw198 rfl rfl dX2_lookAtBath_2 ?_
  refine aw_callVR (pc := 5) (As := [.int (μ (h + 1) 0 8)]) hC mb_X2_watchers kw1085 (by decide) (c_X2_watchers G C.2.1 h (Nat.lt_of_lt_of_le hh (by decide)) μ (μ (h + 1) 0 8)) (vH (j := 0) hh (by decide)) rfl rfl rfl (Nat.le_of_ble_eq_true rfl) dX2_lookAtBath_5 (fun q1 => ?_)
  refine aw_istore_n (pc := 8) (i := 1) hC dX2_lookAtBath_8 rfl rfl (by decide) ?_
  refine aw_iconst (pc := 9) (v := 0) hC dX2_lookAtBath_9 ic0 ?_
  refine aw_istore_n (pc := 10) (i := 2) hC dX2_lookAtBath_10 rfl rfl (by decide) ?_
  have hL11 : ∀ (n : Nat) (x2 : Int32) (μ3 : Mem), AW G C (qV G C 0 0) 0 0 3 μ3 11 [some (.ref (gad G (h + 1) 0)), some (.int q1), some (.int x2)] [] (lp_X2_lookAtBath_11 h q1 n x2 μ3) := by
    intro n
    induction n with
    | zero => intro x2 μ3; exact aw_none
    | succ n ih =>
      intro x2 μ3
      rw [lp_X2_lookAtBath_11]
      refine aw_iload_n (pc := 11) (i := 2) hC dX2_lookAtBath_11 rfl rfl ?_
      refine aw_bipush (pc := 12) (v := 8) hC dX2_lookAtBath_12 bc8 ?_
      refine aw_icmp_ge (pc := 14) (tgt := 93) hC dX2_lookAtBath_14 (by decide) (fun _ => ?_) (fun _ => ?_)
      · skip
        exact aw_vret hC dX2_lookAtBath_93
      · skip
        refine aw_iload_n (pc := 17) (i := 1) hC dX2_lookAtBath_17 rfl rfl ?_
        refine aw_iload_n (pc := 18) (i := 2) hC dX2_lookAtBath_18 rfl rfl ?_
        refine aw_callNR (pc := 19) (As := [.int q1, .int x2]) hC ms_X9_holds kw387 (by decide) (c_X9_holds G C.2.1   μ3 q1 x2) rfl (Nat.le_of_ble_eq_true rfl) dX2_lookAtBath_19 (fun q4 => ?_)
        refine aw_if_eq (pc := 22) (tgt := 87) hC dX2_lookAtBath_22 (by decide) (fun _ => ?_) (fun _ => ?_)
        · skip
          refine aw_iinc (pc := 87) (v := x2 + 1) hC dX2_lookAtBath_87 rfl (congrArg (HAdd.hAdd _) ic1) rfl (by decide) ?_
          refine aw_goto (pc := 90) (tgt := 11) hC dX2_lookAtBath_90 (by decide) ?_
          exact ih (x2 + 1) μ3
        · skip
          refine aw_aload_n (pc := 25) (i := 0) hC dX2_lookAtBath_25 rfl rfl ?_
          refine aw_callVI (pc := 26) (As := []) hC mb_X2_draw kw1086 (by decide) (c_X2_draw G C.2.1 h (Nat.lt_of_lt_of_le hh (by decide)) μ3 ) (vH (j := 0) hh (by decide)) rfl rfl rfl (Nat.le_of_ble_eq_true rfl) dX2_lookAtBath_26 (fun q5 => ?_)
          refine aw_bipush (pc := 29) (v := 10) hC dX2_lookAtBath_29 bc10 ?_
          refine aw_irem (pc := 31) hC dX2_lookAtBath_31 (by decide) ?_
          refine aw_aload_n (pc := 32) (i := 0) hC dX2_lookAtBath_32 rfl rfl ?_
          refine aw_get (pc := 33) hC inX2 (vH (j := 0) hh (by decide)) rfl rfl 0 (by decide) kw184 rfl rfl dX2_lookAtBath_33 ?_
          refine aw_iload_n (pc := 36) (i := 2) hC dX2_lookAtBath_36 rfl rfl ?_
          refine aw_callVR (pc := 37) (As := [.int x2]) hC mb_X1_risk kw1091 (by decide) (c_X1_risk G C.2.1 h (Nat.lt_of_lt_of_le hh (by decide)) q5.2 x2) (vH (j := 1) hh (by decide)) rfl rfl rfl (Nat.le_of_ble_eq_true rfl) dX2_lookAtBath_37 (fun q6 => ?_)
          refine aw_icmp_ge (pc := 40) (tgt := 87) hC dX2_lookAtBath_40 (by decide) (fun _ => ?_) (fun _ => ?_)
          · skip
            refine aw_iinc (pc := 87) (v := x2 + 1) hC dX2_lookAtBath_87 rfl (congrArg (HAdd.hAdd _) ic1) rfl (by decide) ?_
            refine aw_goto (pc := 90) (tgt := 11) hC dX2_lookAtBath_90 (by decide) ?_
            exact ih (x2 + 1) q5.2
          · skip
            refine aw_aload_n (pc := 43) (i := 0) hC dX2_lookAtBath_43 rfl rfl ?_
            refine aw_dup (pc := 44) hC dX2_lookAtBath_44 rfl ?_
            refine aw_get (pc := 45) hC inX2 (vH (j := 0) hh (by decide)) rfl rfl 14 (by decide) kw215 rfl rfl dX2_lookAtBath_45 ?_
            refine aw_iconst (pc := 48) (v := 1) hC dX2_lookAtBath_48 ic1 ?_
            refine aw_iadd (pc := 49) hC dX2_lookAtBath_49 ?_
            refine aw_putIN (pc := 50) hC inX2 (vH (j := 0) hh (by decide)) rfl rfl 14 (by decide) kw215 rfl tyX2 tyX2_ok nmX2 rfl rfl (Nat.le_of_ble_eq_true rfl) rfl dX2_lookAtBath_50 (fun μ7 => ?_)
            refine aw_aload_n (pc := 53) (i := 0) hC dX2_lookAtBath_53 rfl rfl ?_
            refine aw_get (pc := 54) hC inX2 (vH (j := 0) hh (by decide)) rfl rfl 0 (by decide) kw184 rfl rfl dX2_lookAtBath_54 ?_
            refine aw_iload_n (pc := 57) (i := 2) hC dX2_lookAtBath_57 rfl rfl ?_
            refine aw_bipush (pc := 58) (v := 99) hC dX2_lookAtBath_58 bc99 ?_
            refine aw_callVV (pc := 60) (As := [.int x2, .int 99]) hC mb_X1_setDoubt kw1080 (by decide) (c_X1_setDoubt G C.2.1 h (Nat.lt_of_lt_of_le hh (by decide)) μ7 x2 99) (vH (j := 1) hh (by decide)) rfl rfl rfl (Nat.le_of_ble_eq_true rfl) dX2_lookAtBath_60 (fun q8 => ?_)
            refine aw_aload_n (pc := 63) (i := 0) hC dX2_lookAtBath_63 rfl rfl ?_
            refine aw_get (pc := 64) hC inX2 (vH (j := 0) hh (by decide)) rfl rfl 1 (by decide) kw187 rfl rfl dX2_lookAtBath_64 ?_
            refine aw_aload_n (pc := 67) (i := 0) hC dX2_lookAtBath_67 rfl rfl ?_
            refine aw_get (pc := 68) hC inX2 (vH (j := 0) hh (by decide)) rfl rfl 13 (by decide) kw212 rfl rfl dX2_lookAtBath_68 ?_
            refine aw_iload_n (pc := 71) (i := 2) hC dX2_lookAtBath_71 rfl rfl ?_
            refine aw_aload_n (pc := 72) (i := 0) hC dX2_lookAtBath_72 rfl rfl ?_
            refine aw_get (pc := 73) hC inX2 (vH (j := 0) hh (by decide)) rfl rfl 0 (by decide) kw184 rfl rfl dX2_lookAtBath_73 ?_
            refine aw_iload_n (pc := 76) (i := 2) hC dX2_lookAtBath_76 rfl rfl ?_
            refine aw_callVR (pc := 77) (As := [.int x2]) hC mb_X1_roomOf kw394 (by decide) (c_X1_roomOf G C.2.1 h (Nat.lt_of_lt_of_le hh (by decide)) q8 x2) (vH (j := 1) hh (by decide)) rfl rfl rfl (Nat.le_of_ble_eq_true rfl) dX2_lookAtBath_77 (fun q9 => ?_)
            refine aw_aload_n (pc := 80) (i := 0) hC dX2_lookAtBath_80 rfl rfl ?_
            refine aw_get (pc := 81) hC inX2 (vH (j := 0) hh (by decide)) rfl rfl 8 (by decide) kw198 rfl rfl dX2_lookAtBath_81 ?_
            refine aw_callVV (pc := 84) (As := [.int (q8 (h + 1) 0 13), .int x2, .int q9, .int (q8 (h + 1) 0 8)]) hC mb_X0_add kw1092 (by decide) (c_X0_add G C.2.1 h (Nat.lt_of_lt_of_le hh (by decide)) q8 (q8 (h + 1) 0 13) x2 q9 (q8 (h + 1) 0 8)) (vH (j := 5) hh (by decide)) rfl rfl rfl (Nat.le_of_ble_eq_true rfl) dX2_lookAtBath_84 (fun q10 => ?_)
            refine aw_iinc (pc := 87) (v := x2 + 1) hC dX2_lookAtBath_87 rfl (congrArg (HAdd.hAdd _) ic1) rfl (by decide) ?_
            refine aw_goto (pc := 90) (tgt := 11) hC dX2_lookAtBath_90 (by decide) ?_
            exact ih (x2 + 1) q10
  exact hL11 4096 0 μ
theorem dX2_boreByNight_0 : decode cX2_boreByNight 0 = .ok (.aload_n 0, 1) := by decide +kernel
theorem dX2_boreByNight_1 : decode cX2_boreByNight 1 = .ok (.invokevirtual 174, 3) := by decide +kernel
theorem dX2_boreByNight_4 : decode cX2_boreByNight 4 = .ok (.bipush 100, 2) := by decide +kernel
theorem dX2_boreByNight_6 : decode cX2_boreByNight 6 = .ok (.irem, 1) := by decide +kernel
theorem dX2_boreByNight_7 : decode cX2_boreByNight 7 = .ok (.aload_n 0, 1) := by decide +kernel
theorem dX2_boreByNight_8 : decode cX2_boreByNight 8 = .ok (.getfield 80, 3) := by decide +kernel
theorem dX2_boreByNight_11 : decode cX2_boreByNight 11 = .ok (.if_icmp .ge 23, 3) := by decide +kernel
theorem dX2_boreByNight_14 : decode cX2_boreByNight 14 = .ok (.aload_n 0, 1) := by decide +kernel
theorem dX2_boreByNight_15 : decode cX2_boreByNight 15 = .ok (.invokevirtual 174, 3) := by decide +kernel
theorem dX2_boreByNight_18 : decode cX2_boreByNight 18 = .ok (.bipush 8, 2) := by decide +kernel
theorem dX2_boreByNight_20 : decode cX2_boreByNight 20 = .ok (.irem, 1) := by decide +kernel
theorem dX2_boreByNight_21 : decode cX2_boreByNight 21 = .ok (.istore_n 1, 1) := by decide +kernel
theorem dX2_boreByNight_22 : decode cX2_boreByNight 22 = .ok (.aload_n 0, 1) := by decide +kernel
theorem dX2_boreByNight_23 : decode cX2_boreByNight 23 = .ok (.iload_n 1, 1) := by decide +kernel
theorem dX2_boreByNight_24 : decode cX2_boreByNight 24 = .ok (.iload_n 1, 1) := by decide +kernel
theorem dX2_boreByNight_25 : decode cX2_boreByNight 25 = .ok (.iconst 1, 1) := by decide +kernel
theorem dX2_boreByNight_26 : decode cX2_boreByNight 26 = .ok (.iadd, 1) := by decide +kernel
theorem dX2_boreByNight_27 : decode cX2_boreByNight 27 = .ok (.bipush 8, 2) := by decide +kernel
theorem dX2_boreByNight_29 : decode cX2_boreByNight 29 = .ok (.irem, 1) := by decide +kernel
theorem dX2_boreByNight_30 : decode cX2_boreByNight 30 = .ok (.iconst 1, 1) := by decide +kernel
theorem dX2_boreByNight_31 : decode cX2_boreByNight 31 = .ok (.invokevirtual 185, 3) := by decide +kernel
theorem dX2_boreByNight_34 : decode cX2_boreByNight 34 = .ok (.return_, 1) := by decide +kernel
def f_X2_boreByNight (h : Nat) (μ : Mem) : Option (Mem) := (f_X2_draw h μ).bind fun (q1 : Int32 × Mem) => if (q1.2 (h + 1) 0 12) ≤ (jrem q1.1 100) then (some q1.2) else ((f_X2_draw h q1.2).bind fun (q2 : Int32 × Mem) => (f_X2_setHole h q2.2 (jrem q2.1 8) (jrem ((jrem q2.1 8) + 1) 8) 1).bind fun (q3 : Mem) => some q3)
set_option maxHeartbeats 4000000 in
set_option maxRecDepth 100000 in
theorem c_X2_boreByNight (G : GG) (l : Launch) (h : Nat) (hh : h < 15) (μ : Mem) : CV G l yX2_boreByNight (.code yX2_boreByNight cX2_boreByNight 2 none) 3 [.ref (gad G (h + 1) 0)] μ (f_X2_boreByNight h μ) := by
  refine CV.of (own := "SaturdayKeep$House") (L0 := [some (.ref (gad G (h + 1) 0)), none]) rfl rfl rfl (Nat.le_of_ble_eq_true rfl) (fun C hl hC => ?_)
  subst hl
  delta f_X2_boreByNight
  refine aw_aload_n (pc := 0) (i := 0) hC dX2_boreByNight_0 rfl rfl ?_
  refine aw_callVI (pc := 1) (As := []) hC mb_X2_draw kw1086 (by decide) (c_X2_draw G C.2.1 h (Nat.lt_of_lt_of_le hh (by decide)) μ ) (vH (j := 0) hh (by decide)) rfl rfl rfl (Nat.le_of_ble_eq_true rfl) dX2_boreByNight_1 (fun q1 => ?_)
  refine aw_bipush (pc := 4) (v := 100) hC dX2_boreByNight_4 bc100 ?_
  refine aw_irem (pc := 6) hC dX2_boreByNight_6 (by decide) ?_
  refine aw_aload_n (pc := 7) (i := 0) hC dX2_boreByNight_7 rfl rfl ?_
  refine aw_get (pc := 8) hC inX2 (vH (j := 0) hh (by decide)) rfl rfl 12 (by decide) kw209 rfl rfl dX2_boreByNight_8 ?_
  refine aw_icmp_ge (pc := 11) (tgt := 34) hC dX2_boreByNight_11 (by decide) (fun _ => ?_) (fun _ => ?_)
  · skip
    exact aw_vret hC dX2_boreByNight_34
  · skip
    refine aw_aload_n (pc := 14) (i := 0) hC dX2_boreByNight_14 rfl rfl ?_
    refine aw_callVI (pc := 15) (As := []) hC mb_X2_draw kw1086 (by decide) (c_X2_draw G C.2.1 h (Nat.lt_of_lt_of_le hh (by decide)) q1.2 ) (vH (j := 0) hh (by decide)) rfl rfl rfl (Nat.le_of_ble_eq_true rfl) dX2_boreByNight_15 (fun q2 => ?_)
    refine aw_bipush (pc := 18) (v := 8) hC dX2_boreByNight_18 bc8 ?_
    refine aw_irem (pc := 20) hC dX2_boreByNight_20 (by decide) ?_
    refine aw_istore_n (pc := 21) (i := 1) hC dX2_boreByNight_21 rfl rfl (by decide) ?_
    refine aw_aload_n (pc := 22) (i := 0) hC dX2_boreByNight_22 rfl rfl ?_
    refine aw_iload_n (pc := 23) (i := 1) hC dX2_boreByNight_23 rfl rfl ?_
    refine aw_iload_n (pc := 24) (i := 1) hC dX2_boreByNight_24 rfl rfl ?_
    refine aw_iconst (pc := 25) (v := 1) hC dX2_boreByNight_25 ic1 ?_
    refine aw_iadd (pc := 26) hC dX2_boreByNight_26 ?_
    refine aw_bipush (pc := 27) (v := 8) hC dX2_boreByNight_27 bc8 ?_
    refine aw_irem (pc := 29) hC dX2_boreByNight_29 (by decide) ?_
    refine aw_iconst (pc := 30) (v := 1) hC dX2_boreByNight_30 ic1 ?_
    refine aw_callVV (pc := 31) (As := [.int (jrem q2.1 8), .int (jrem ((jrem q2.1 8) + 1) 8), .int 1]) hC mb_X2_setHole kw1102 (by decide) (c_X2_setHole G C.2.1 h (Nat.lt_of_lt_of_le hh (by decide)) q2.2 (jrem q2.1 8) (jrem ((jrem q2.1 8) + 1) 8) 1) (vH (j := 0) hh (by decide)) rfl rfl rfl (Nat.le_of_ble_eq_true rfl) dX2_boreByNight_31 (fun q3 => ?_)
    exact aw_vret hC dX2_boreByNight_34
theorem dX2_liveDay_0 : decode cX2_liveDay 0 = .ok (.aload_n 0, 1) := by decide +kernel
theorem dX2_liveDay_1 : decode cX2_liveDay 1 = .ok (.aload_n 0, 1) := by decide +kernel
theorem dX2_liveDay_2 : decode cX2_liveDay 2 = .ok (.getfield 12, 3) := by decide +kernel
theorem dX2_liveDay_5 : decode cX2_liveDay 5 = .ok (.getfield 126, 3) := by decide +kernel
theorem dX2_liveDay_8 : decode cX2_liveDay 8 = .ok (.invokevirtual 145, 3) := by decide +kernel
theorem dX2_liveDay_11 : decode cX2_liveDay 11 = .ok (.aload_n 0, 1) := by decide +kernel
theorem dX2_liveDay_12 : decode cX2_liveDay 12 = .ok (.aload_n 0, 1) := by decide +kernel
theorem dX2_liveDay_13 : decode cX2_liveDay 13 = .ok (.getfield 71, 3) := by decide +kernel
theorem dX2_liveDay_16 : decode cX2_liveDay 16 = .ok (.aload_n 0, 1) := by decide +kernel
theorem dX2_liveDay_17 : decode cX2_liveDay 17 = .ok (.getfield 83, 3) := by decide +kernel
theorem dX2_liveDay_20 : decode cX2_liveDay 20 = .ok (.invokevirtual 96, 3) := by decide +kernel
theorem dX2_liveDay_23 : decode cX2_liveDay 23 = .ok (.ifCond .eq 7, 3) := by decide +kernel
theorem dX2_liveDay_26 : decode cX2_liveDay 26 = .ok (.aload_n 0, 1) := by decide +kernel
theorem dX2_liveDay_27 : decode cX2_liveDay 27 = .ok (.invokevirtual 149, 3) := by decide +kernel
theorem dX2_liveDay_30 : decode cX2_liveDay 30 = .ok (.aload_n 0, 1) := by decide +kernel
theorem dX2_liveDay_31 : decode cX2_liveDay 31 = .ok (.invokevirtual 152, 3) := by decide +kernel
theorem dX2_liveDay_34 : decode cX2_liveDay 34 = .ok (.aload_n 0, 1) := by decide +kernel
theorem dX2_liveDay_35 : decode cX2_liveDay 35 = .ok (.invokevirtual 155, 3) := by decide +kernel
theorem dX2_liveDay_38 : decode cX2_liveDay 38 = .ok (.aload_n 0, 1) := by decide +kernel
theorem dX2_liveDay_39 : decode cX2_liveDay 39 = .ok (.sipush 9999, 3) := by decide +kernel
theorem dX2_liveDay_42 : decode cX2_liveDay 42 = .ok (.aload_n 0, 1) := by decide +kernel
theorem dX2_liveDay_43 : decode cX2_liveDay 43 = .ok (.getfield 83, 3) := by decide +kernel
theorem dX2_liveDay_46 : decode cX2_liveDay 46 = .ok (.iconst 1, 1) := by decide +kernel
theorem dX2_liveDay_47 : decode cX2_liveDay 47 = .ok (.iadd, 1) := by decide +kernel
theorem dX2_liveDay_48 : decode cX2_liveDay 48 = .ok (.invokestatic 158, 3) := by decide +kernel
theorem dX2_liveDay_51 : decode cX2_liveDay 51 = .ok (.putfield 83, 3) := by decide +kernel
theorem dX2_liveDay_54 : decode cX2_liveDay 54 = .ok (.return_, 1) := by decide +kernel
def f_X2_liveDay (h : Nat) (μ : Mem) : Option (Mem) := (f_X2_turnDoubts h μ (μ (h + 1) 1 5)).bind fun (q1 : Mem) => (f_X2_isSaturday h q1 (q1 (h + 1) 0 7) (q1 (h + 1) 0 13)).bind fun (q2 : Int32) => nm (fun (μ3 : Mem) => (f_X2_build h μ3).bind fun (q4 : Mem) => (f_X2_boreByNight h q4).bind fun (q5 : Mem) => nm (upm q5 (h + 1) 0 13 (jmin 9999 ((q5 (h + 1) 0 13) + 1))) fun (μ6 : Mem) => some μ6) fun (J30 : Mem → Option (Mem)) => if q2 = 0 then (J30 q1) else ((f_X2_lookAtBath h q1).bind fun (q7 : Mem) => J30 q7)
set_option maxHeartbeats 4000000 in
set_option maxRecDepth 100000 in
theorem c_X2_liveDay (G : GG) (l : Launch) (h : Nat) (hh : h < 15) (μ : Mem) : CV G l yX2_liveDay (.code yX2_liveDay cX2_liveDay 1 none) 6 [.ref (gad G (h + 1) 0)] μ (f_X2_liveDay h μ) := by
  refine CV.of (own := "SaturdayKeep$House") (L0 := [some (.ref (gad G (h + 1) 0))]) rfl rfl rfl (Nat.le_of_ble_eq_true rfl) (fun C hl hC => ?_)
  subst hl
  delta f_X2_liveDay
  refine aw_aload_n (pc := 0) (i := 0) hC dX2_liveDay_0 rfl rfl ?_
  refine aw_aload_n (pc := 1) (i := 0) hC dX2_liveDay_1 rfl rfl ?_
  refine aw_get (pc := 2) hC inX2 (vH (j := 0) hh (by decide)) rfl rfl 0 (by decide) kw184 rfl rfl dX2_liveDay_2 ?_
  refine aw_get (pc := 5) hC inX1 (vH (j := 1) hh (by decide)) rfl rfl 5 (by decide) kw151 rfl rfl dX2_liveDay_5 ?_
  refine aw_callVV (pc := 8) (As := [.int (μ (h + 1) 1 5)]) hC mb_X2_turnDoubts kw1075 (by decide) (c_X2_turnDoubts G C.2.1 h (Nat.lt_of_lt_of_le hh (by decide)) μ (μ (h + 1) 1 5)) (vH (j := 0) hh (by decide)) rfl rfl rfl (Nat.le_of_ble_eq_true rfl) dX2_liveDay_8 (fun q1 => ?_)
  refine aw_aload_n (pc := 11) (i := 0) hC dX2_liveDay_11 rfl rfl ?_
  refine aw_aload_n (pc := 12) (i := 0) hC dX2_liveDay_12 rfl rfl ?_
  refine aw_get (pc := 13) hC inX2 (vH (j := 0) hh (by decide)) rfl rfl 7 (by decide) kw195 rfl rfl dX2_liveDay_13 ?_
  refine aw_aload_n (pc := 16) (i := 0) hC dX2_liveDay_16 rfl rfl ?_
  refine aw_get (pc := 17) hC inX2 (vH (j := 0) hh (by decide)) rfl rfl 13 (by decide) kw212 rfl rfl dX2_liveDay_17 ?_
  refine aw_callVR (pc := 20) (As := [.int (q1 (h + 1) 0 7), .int (q1 (h + 1) 0 13)]) hC mb_X2_isSaturday kw334 (by decide) (c_X2_isSaturday G C.2.1 h (Nat.lt_of_lt_of_le hh (by decide)) q1 (q1 (h + 1) 0 7) (q1 (h + 1) 0 13)) (vH (j := 0) hh (by decide)) rfl rfl rfl (Nat.le_of_ble_eq_true rfl) dX2_liveDay_20 (fun q2 => ?_)
  refine aw_nmJ (fun (J30 : Mem → Option (Mem)) => ∀ (μ3 : Mem), AW G C (qV G C 0 0) 0 0 1 μ3 30 [some (.ref (gad G (h + 1) 0))] [] (J30 μ3)) (fun μ3 => ?_) (fun J30 hJ30 => ?_)
  · skip
    refine aw_aload_n (pc := 30) (i := 0) hC dX2_liveDay_30 rfl rfl ?_
    refine aw_callVV (pc := 31) (As := []) hC mb_X2_build kw1097 (by decide) (c_X2_build G C.2.1 h (Nat.lt_of_lt_of_le hh (by decide)) μ3 ) (vH (j := 0) hh (by decide)) rfl rfl rfl (Nat.le_of_ble_eq_true rfl) dX2_liveDay_31 (fun q4 => ?_)
    refine aw_aload_n (pc := 34) (i := 0) hC dX2_liveDay_34 rfl rfl ?_
    refine aw_callVV (pc := 35) (As := []) hC mb_X2_boreByNight kw1098 (by decide) (c_X2_boreByNight G C.2.1 h (Nat.lt_of_lt_of_le hh (by decide)) q4 ) (vH (j := 0) hh (by decide)) rfl rfl rfl (Nat.le_of_ble_eq_true rfl) dX2_liveDay_35 (fun q5 => ?_)
    refine aw_aload_n (pc := 38) (i := 0) hC dX2_liveDay_38 rfl rfl ?_
    refine aw_sipush (pc := 39) (v := 9999) hC dX2_liveDay_39 sc9999 ?_
    refine aw_aload_n (pc := 42) (i := 0) hC dX2_liveDay_42 rfl rfl ?_
    refine aw_get (pc := 43) hC inX2 (vH (j := 0) hh (by decide)) rfl rfl 13 (by decide) kw212 rfl rfl dX2_liveDay_43 ?_
    refine aw_iconst (pc := 46) (v := 1) hC dX2_liveDay_46 ic1 ?_
    refine aw_iadd (pc := 47) hC dX2_liveDay_47 ?_
    refine aw_mmin (pc := 48) hC kw378 kw367 kw12 kw368 (by decide) (Nat.le_of_ble_eq_true rfl) dX2_liveDay_48 ?_
    refine aw_putIN (pc := 51) hC inX2 (vH (j := 0) hh (by decide)) rfl rfl 13 (by decide) kw212 rfl tyX2 tyX2_ok nmX2 rfl rfl (Nat.le_of_ble_eq_true rfl) rfl dX2_liveDay_51 (fun μ6 => ?_)
    exact aw_vret hC dX2_liveDay_54
  · skip
    refine aw_if_eq (pc := 23) (tgt := 30) hC dX2_liveDay_23 (by decide) (fun _ => ?_) (fun _ => ?_)
    · skip
      exact hJ30 q1
    · skip
      refine aw_aload_n (pc := 26) (i := 0) hC dX2_liveDay_26 rfl rfl ?_
      refine aw_callVV (pc := 27) (As := []) hC mb_X2_lookAtBath kw1081 (by decide) (c_X2_lookAtBath G C.2.1 h (Nat.lt_of_lt_of_le hh (by decide)) q1 ) (vH (j := 0) hh (by decide)) rfl rfl rfl (Nat.le_of_ble_eq_true rfl) dX2_liveDay_27 (fun q7 => ?_)
      exact hJ30 q7
theorem dX2_foreseeDay_0 : decode cX2_foreseeDay 0 = .ok (.aload_n 0, 1) := by decide +kernel
theorem dX2_foreseeDay_1 : decode cX2_foreseeDay 1 = .ok (.aload_n 0, 1) := by decide +kernel
theorem dX2_foreseeDay_2 : decode cX2_foreseeDay 2 = .ok (.getfield 12, 3) := by decide +kernel
theorem dX2_foreseeDay_5 : decode cX2_foreseeDay 5 = .ok (.getfield 126, 3) := by decide +kernel
theorem dX2_foreseeDay_8 : decode cX2_foreseeDay 8 = .ok (.iload_n 1, 1) := by decide +kernel
theorem dX2_foreseeDay_9 : decode cX2_foreseeDay 9 = .ok (.iand, 1) := by decide +kernel
theorem dX2_foreseeDay_10 : decode cX2_foreseeDay 10 = .ok (.invokevirtual 145, 3) := by decide +kernel
theorem dX2_foreseeDay_13 : decode cX2_foreseeDay 13 = .ok (.aload_n 0, 1) := by decide +kernel
theorem dX2_foreseeDay_14 : decode cX2_foreseeDay 14 = .ok (.invokevirtual 152, 3) := by decide +kernel
theorem dX2_foreseeDay_17 : decode cX2_foreseeDay 17 = .ok (.aload_n 0, 1) := by decide +kernel
theorem dX2_foreseeDay_18 : decode cX2_foreseeDay 18 = .ok (.sipush 9999, 3) := by decide +kernel
theorem dX2_foreseeDay_21 : decode cX2_foreseeDay 21 = .ok (.aload_n 0, 1) := by decide +kernel
theorem dX2_foreseeDay_22 : decode cX2_foreseeDay 22 = .ok (.getfield 83, 3) := by decide +kernel
theorem dX2_foreseeDay_25 : decode cX2_foreseeDay 25 = .ok (.iconst 1, 1) := by decide +kernel
theorem dX2_foreseeDay_26 : decode cX2_foreseeDay 26 = .ok (.iadd, 1) := by decide +kernel
theorem dX2_foreseeDay_27 : decode cX2_foreseeDay 27 = .ok (.invokestatic 158, 3) := by decide +kernel
theorem dX2_foreseeDay_30 : decode cX2_foreseeDay 30 = .ok (.putfield 83, 3) := by decide +kernel
theorem dX2_foreseeDay_33 : decode cX2_foreseeDay 33 = .ok (.return_, 1) := by decide +kernel
def f_X2_foreseeDay (h : Nat) (μ : Mem) (a1 : Int32) : Option (Mem) := (f_X2_turnDoubts h μ ((μ (h + 1) 1 5) &&& a1)).bind fun (q1 : Mem) => (f_X2_build h q1).bind fun (q2 : Mem) => nm (upm q2 (h + 1) 0 13 (jmin 9999 ((q2 (h + 1) 0 13) + 1))) fun (μ3 : Mem) => some μ3
set_option maxHeartbeats 4000000 in
set_option maxRecDepth 100000 in
theorem c_X2_foreseeDay (G : GG) (l : Launch) (h : Nat) (hh : h < 15) (μ : Mem) (a1 : Int32) : CV G l yX2_foreseeDay (.code yX2_foreseeDay cX2_foreseeDay 2 none) 5 [.ref (gad G (h + 1) 0), .int a1] μ (f_X2_foreseeDay h μ a1) := by
  refine CV.of (own := "SaturdayKeep$House") (L0 := [some (.ref (gad G (h + 1) 0)), some (.int a1)]) rfl rfl rfl (Nat.le_of_ble_eq_true rfl) (fun C hl hC => ?_)
  subst hl
  delta f_X2_foreseeDay
  refine aw_aload_n (pc := 0) (i := 0) hC dX2_foreseeDay_0 rfl rfl ?_
  refine aw_aload_n (pc := 1) (i := 0) hC dX2_foreseeDay_1 rfl rfl ?_
  refine aw_get (pc := 2) hC inX2 (vH (j := 0) hh (by decide)) rfl rfl 0 (by decide) kw184 rfl rfl dX2_foreseeDay_2 ?_
  refine aw_get (pc := 5) hC inX1 (vH (j := 1) hh (by decide)) rfl rfl 5 (by decide) kw151 rfl rfl dX2_foreseeDay_5 ?_
  refine aw_iload_n (pc := 8) (i := 1) hC dX2_foreseeDay_8 rfl rfl ?_
  refine aw_iand (pc := 9) hC dX2_foreseeDay_9 ?_
  refine aw_callVV (pc := 10) (As := [.int ((μ (h + 1) 1 5) &&& a1)]) hC mb_X2_turnDoubts kw1075 (by decide) (c_X2_turnDoubts G C.2.1 h (Nat.lt_of_lt_of_le hh (by decide)) μ ((μ (h + 1) 1 5) &&& a1)) (vH (j := 0) hh (by decide)) rfl rfl rfl (Nat.le_of_ble_eq_true rfl) dX2_foreseeDay_10 (fun q1 => ?_)
  refine aw_aload_n (pc := 13) (i := 0) hC dX2_foreseeDay_13 rfl rfl ?_
  refine aw_callVV (pc := 14) (As := []) hC mb_X2_build kw1097 (by decide) (c_X2_build G C.2.1 h (Nat.lt_of_lt_of_le hh (by decide)) q1 ) (vH (j := 0) hh (by decide)) rfl rfl rfl (Nat.le_of_ble_eq_true rfl) dX2_foreseeDay_14 (fun q2 => ?_)
  refine aw_aload_n (pc := 17) (i := 0) hC dX2_foreseeDay_17 rfl rfl ?_
  refine aw_sipush (pc := 18) (v := 9999) hC dX2_foreseeDay_18 sc9999 ?_
  refine aw_aload_n (pc := 21) (i := 0) hC dX2_foreseeDay_21 rfl rfl ?_
  refine aw_get (pc := 22) hC inX2 (vH (j := 0) hh (by decide)) rfl rfl 13 (by decide) kw212 rfl rfl dX2_foreseeDay_22 ?_
  refine aw_iconst (pc := 25) (v := 1) hC dX2_foreseeDay_25 ic1 ?_
  refine aw_iadd (pc := 26) hC dX2_foreseeDay_26 ?_
  refine aw_mmin (pc := 27) hC kw378 kw367 kw12 kw368 (by decide) (Nat.le_of_ble_eq_true rfl) dX2_foreseeDay_27 ?_
  refine aw_putIN (pc := 30) hC inX2 (vH (j := 0) hh (by decide)) rfl rfl 13 (by decide) kw212 rfl tyX2 tyX2_ok nmX2 rfl rfl (Nat.le_of_ble_eq_true rfl) rfl dX2_foreseeDay_30 (fun μ3 => ?_)
  exact aw_vret hC dX2_foreseeDay_33
theorem dX2_holesFromAny_0 : decode cX2_holesFromAny 0 = .ok (.iconst 0, 1) := by decide +kernel
theorem dX2_holesFromAny_1 : decode cX2_holesFromAny 1 = .ok (.istore_n 2, 1) := by decide +kernel
theorem dX2_holesFromAny_2 : decode cX2_holesFromAny 2 = .ok (.iconst 0, 1) := by decide +kernel
theorem dX2_holesFromAny_3 : decode cX2_holesFromAny 3 = .ok (.istore_n 3, 1) := by decide +kernel
theorem dX2_holesFromAny_4 : decode cX2_holesFromAny 4 = .ok (.iload_n 3, 1) := by decide +kernel
theorem dX2_holesFromAny_5 : decode cX2_holesFromAny 5 = .ok (.bipush 8, 2) := by decide +kernel
theorem dX2_holesFromAny_7 : decode cX2_holesFromAny 7 = .ok (.if_icmp .ge 30, 3) := by decide +kernel
theorem dX2_holesFromAny_10 : decode cX2_holesFromAny 10 = .ok (.iload_n 2, 1) := by decide +kernel
theorem dX2_holesFromAny_11 : decode cX2_holesFromAny 11 = .ok (.iload_n 1, 1) := by decide +kernel
theorem dX2_holesFromAny_12 : decode cX2_holesFromAny 12 = .ok (.iload_n 3, 1) := by decide +kernel
theorem dX2_holesFromAny_13 : decode cX2_holesFromAny 13 = .ok (.invokestatic 104, 3) := by decide +kernel
theorem dX2_holesFromAny_16 : decode cX2_holesFromAny 16 = .ok (.ifCond .eq 12, 3) := by decide +kernel
theorem dX2_holesFromAny_19 : decode cX2_holesFromAny 19 = .ok (.aload_n 0, 1) := by decide +kernel
theorem dX2_holesFromAny_20 : decode cX2_holesFromAny 20 = .ok (.getfield 32, 3) := by decide +kernel
theorem dX2_holesFromAny_23 : decode cX2_holesFromAny 23 = .ok (.iload_n 3, 1) := by decide +kernel
theorem dX2_holesFromAny_24 : decode cX2_holesFromAny 24 = .ok (.iaload, 1) := by decide +kernel
theorem dX2_holesFromAny_25 : decode cX2_holesFromAny 25 = .ok (.goto 4, 3) := by decide +kernel
theorem dX2_holesFromAny_28 : decode cX2_holesFromAny 28 = .ok (.iconst 0, 1) := by decide +kernel
theorem dX2_holesFromAny_29 : decode cX2_holesFromAny 29 = .ok (.ior, 1) := by decide +kernel
theorem dX2_holesFromAny_30 : decode cX2_holesFromAny 30 = .ok (.istore_n 2, 1) := by decide +kernel
theorem dX2_holesFromAny_31 : decode cX2_holesFromAny 31 = .ok (.iinc 3 1, 3) := by decide +kernel
theorem dX2_holesFromAny_34 : decode cX2_holesFromAny 34 = .ok (.goto (-30), 3) := by decide +kernel
theorem dX2_holesFromAny_37 : decode cX2_holesFromAny 37 = .ok (.iload_n 2, 1) := by decide +kernel
theorem dX2_holesFromAny_38 : decode cX2_holesFromAny 38 = .ok (.ireturn, 1) := by decide +kernel
def lp_X2_holesFromAny_4 (a1 : Int32) (h : Nat) (μ : Mem) : Nat → Int32 → Int32 → Option (Int32)
  | 0, _, _ => none
  | n + 1, x1, x2 => if 8 ≤ x2 then (some x1) else ((f_X9_holds a1 x2).bind fun (q3 : Int32) => if q3 = 0 then (lp_X2_holesFromAny_4 a1 h μ n (x1 ||| 0) (x2 + 1)) else (ix x2 8 (nm (x1 ||| (μ (h + 1) 10 x2.toNatClampNeg)) fun (x4 : Int32) => lp_X2_holesFromAny_4 a1 h μ n x4 (x2 + 1))))
def f_X2_holesFromAny (h : Nat) (μ : Mem) (a1 : Int32) : Option (Int32) := lp_X2_holesFromAny_4 a1 h μ 4096 0 0
set_option maxHeartbeats 4000000 in
set_option maxRecDepth 100000 in
theorem c_X2_holesFromAny (G : GG) (l : Launch) (h : Nat) (hh : h < 15) (μ : Mem) (a1 : Int32) : CR G l yX2_holesFromAny (.code yX2_holesFromAny cX2_holesFromAny 4 (some .int)) 2 [.ref (gad G (h + 1) 0), .int a1] μ (f_X2_holesFromAny h μ a1) := by
  refine CR.of (own := "SaturdayKeep$House") (L0 := [some (.ref (gad G (h + 1) 0)), some (.int a1), none, none]) rfl rfl rfl (Nat.le_of_ble_eq_true rfl) (fun C hl hC => ?_)
  subst hl
  delta f_X2_holesFromAny
  refine aw_iconst (pc := 0) (v := 0) hC dX2_holesFromAny_0 ic0 ?_
  refine aw_istore_n (pc := 1) (i := 2) hC dX2_holesFromAny_1 rfl rfl (by decide) ?_
  refine aw_iconst (pc := 2) (v := 0) hC dX2_holesFromAny_2 ic0 ?_
  refine aw_istore_n (pc := 3) (i := 3) hC dX2_holesFromAny_3 rfl rfl (by decide) ?_
  have hL4 : ∀ (n : Nat) (x1 : Int32) (x2 : Int32), AW G C (qR G C 0 0 μ) 0 0 4 μ 4 [some (.ref (gad G (h + 1) 0)), some (.int a1), some (.int x1), some (.int x2)] [] (lp_X2_holesFromAny_4 a1 h μ n x1 x2) := by
    intro n
    induction n with
    | zero => intro x1 x2; exact aw_none
    | succ n ih =>
      intro x1 x2
      rw [lp_X2_holesFromAny_4]
      refine aw_iload_n (pc := 4) (i := 3) hC dX2_holesFromAny_4 rfl rfl ?_
      refine aw_bipush (pc := 5) (v := 8) hC dX2_holesFromAny_5 bc8 ?_
      refine aw_icmp_ge (pc := 7) (tgt := 37) hC dX2_holesFromAny_7 (by decide) (fun _ => ?_) (fun _ => ?_)
      · skip
        refine aw_iload_n (pc := 37) (i := 2) hC dX2_holesFromAny_37 rfl rfl ?_
        exact aw_iretR hC dX2_holesFromAny_38
      · skip
        refine aw_iload_n (pc := 10) (i := 2) hC dX2_holesFromAny_10 rfl rfl ?_
        refine aw_iload_n (pc := 11) (i := 1) hC dX2_holesFromAny_11 rfl rfl ?_
        refine aw_iload_n (pc := 12) (i := 3) hC dX2_holesFromAny_12 rfl rfl ?_
        refine aw_callNR (pc := 13) (As := [.int a1, .int x2]) hC ms_X9_holds kw387 (by decide) (c_X9_holds G C.2.1   μ a1 x2) rfl (Nat.le_of_ble_eq_true rfl) dX2_holesFromAny_13 (fun q3 => ?_)
        refine aw_if_eq (pc := 16) (tgt := 28) hC dX2_holesFromAny_16 (by decide) (fun _ => ?_) (fun _ => ?_)
        · skip
          refine aw_iconst (pc := 28) (v := 0) hC dX2_holesFromAny_28 ic0 ?_
          refine aw_ior (pc := 29) hC dX2_holesFromAny_29 ?_
          refine aw_istore_n (pc := 30) (i := 2) hC dX2_holesFromAny_30 rfl rfl (by decide) ?_
          refine aw_iinc (pc := 31) (v := x2 + 1) hC dX2_holesFromAny_31 rfl (congrArg (HAdd.hAdd _) ic1) rfl (by decide) ?_
          refine aw_goto (pc := 34) (tgt := 4) hC dX2_holesFromAny_34 (by decide) ?_
          exact ih (x1 ||| 0) (x2 + 1)
        · skip
          refine aw_aload_n (pc := 19) (i := 0) hC dX2_holesFromAny_19 rfl rfl ?_
          refine aw_get (pc := 20) hC inX2 (vH (j := 0) hh (by decide)) rfl rfl 3 (by decide) kw191 rfl rfl dX2_holesFromAny_20 ?_
          refine aw_iload_n (pc := 23) (i := 3) hC dX2_holesFromAny_23 rfl rfl ?_
          refine aw_iaload (pc := 24) hC (vH (j := 10) hh (by decide)) rfl dX2_holesFromAny_24 ?_
          refine aw_goto (pc := 25) (tgt := 29) hC dX2_holesFromAny_25 (by decide) ?_
          refine aw_ior (pc := 29) hC dX2_holesFromAny_29 ?_
          refine aw_nmI (fun x4 _ => ?_)
          refine aw_istore_n (pc := 30) (i := 2) hC dX2_holesFromAny_30 rfl rfl (by decide) ?_
          refine aw_iinc (pc := 31) (v := x2 + 1) hC dX2_holesFromAny_31 rfl (congrArg (HAdd.hAdd _) ic1) rfl (by decide) ?_
          refine aw_goto (pc := 34) (tgt := 4) hC dX2_holesFromAny_34 (by decide) ?_
          exact ih x4 (x2 + 1)
  exact hL4 4096 0 0
theorem dX3_readGuest_0 : decode cX3_readGuest 0 = .ok (.aload_n 1, 1) := by decide +kernel
theorem dX3_readGuest_1 : decode cX3_readGuest 1 = .ok (.getfield 42, 3) := by decide +kernel
theorem dX3_readGuest_4 : decode cX3_readGuest 4 = .ok (.getfield 48, 3) := by decide +kernel
theorem dX3_readGuest_7 : decode cX3_readGuest 7 = .ok (.bipush 8, 2) := by decide +kernel
theorem dX3_readGuest_9 : decode cX3_readGuest 9 = .ok (.if_icmp .ge 15, 3) := by decide +kernel
theorem dX3_readGuest_12 : decode cX3_readGuest 12 = .ok (.aload_n 0, 1) := by decide +kernel
theorem dX3_readGuest_13 : decode cX3_readGuest 13 = .ok (.getfield 9, 3) := by decide +kernel
theorem dX3_readGuest_16 : decode cX3_readGuest 16 = .ok (.bipush 10, 2) := by decide +kernel
theorem dX3_readGuest_18 : decode cX3_readGuest 18 = .ok (.invokevirtual 25, 3) := by decide +kernel
theorem dX3_readGuest_21 : decode cX3_readGuest 21 = .ok (.ifCond .ne 5, 3) := by decide +kernel
theorem dX3_readGuest_24 : decode cX3_readGuest 24 = .ok (.iconst 0, 1) := by decide +kernel
theorem dX3_readGuest_25 : decode cX3_readGuest 25 = .ok (.ireturn, 1) := by decide +kernel
theorem dX3_readGuest_26 : decode cX3_readGuest 26 = .ok (.aload_n 0, 1) := by decide +kernel
theorem dX3_readGuest_27 : decode cX3_readGuest 27 = .ok (.getfield 9, 3) := by decide +kernel
theorem dX3_readGuest_30 : decode cX3_readGuest 30 = .ok (.bipush 12, 2) := by decide +kernel
theorem dX3_readGuest_32 : decode cX3_readGuest 32 = .ok (.invokevirtual 25, 3) := by decide +kernel
theorem dX3_readGuest_35 : decode cX3_readGuest 35 = .ok (.ifCond .eq 15, 3) := by decide +kernel
theorem dX3_readGuest_38 : decode cX3_readGuest 38 = .ok (.aload_n 0, 1) := by decide +kernel
theorem dX3_readGuest_39 : decode cX3_readGuest 39 = .ok (.getfield 9, 3) := by decide +kernel
theorem dX3_readGuest_42 : decode cX3_readGuest 42 = .ok (.bipush 10, 2) := by decide +kernel
theorem dX3_readGuest_44 : decode cX3_readGuest 44 = .ok (.invokevirtual 54, 3) := by decide +kernel
theorem dX3_readGuest_47 : decode cX3_readGuest 47 = .ok (.ifCond .ne 5, 3) := by decide +kernel
theorem dX3_readGuest_50 : decode cX3_readGuest 50 = .ok (.iconst 0, 1) := by decide +kernel
theorem dX3_readGuest_51 : decode cX3_readGuest 51 = .ok (.ireturn, 1) := by decide +kernel
theorem dX3_readGuest_52 : decode cX3_readGuest 52 = .ok (.aload_n 0, 1) := by decide +kernel
theorem dX3_readGuest_53 : decode cX3_readGuest 53 = .ok (.getfield 9, 3) := by decide +kernel
theorem dX3_readGuest_56 : decode cX3_readGuest 56 = .ok (.getfield 57, 3) := by decide +kernel
theorem dX3_readGuest_59 : decode cX3_readGuest 59 = .ok (.istore_n 2, 1) := by decide +kernel
theorem dX3_readGuest_60 : decode cX3_readGuest 60 = .ok (.aload_n 0, 1) := by decide +kernel
theorem dX3_readGuest_61 : decode cX3_readGuest 61 = .ok (.getfield 9, 3) := by decide +kernel
theorem dX3_readGuest_64 : decode cX3_readGuest 64 = .ok (.bipush 20, 2) := by decide +kernel
theorem dX3_readGuest_66 : decode cX3_readGuest 66 = .ok (.invokevirtual 25, 3) := by decide +kernel
theorem dX3_readGuest_69 : decode cX3_readGuest 69 = .ok (.ifCond .eq 15, 3) := by decide +kernel
theorem dX3_readGuest_72 : decode cX3_readGuest 72 = .ok (.aload_n 0, 1) := by decide +kernel
theorem dX3_readGuest_73 : decode cX3_readGuest 73 = .ok (.getfield 9, 3) := by decide +kernel
theorem dX3_readGuest_76 : decode cX3_readGuest 76 = .ok (.bipush 7, 2) := by decide +kernel
theorem dX3_readGuest_78 : decode cX3_readGuest 78 = .ok (.invokevirtual 54, 3) := by decide +kernel
theorem dX3_readGuest_81 : decode cX3_readGuest 81 = .ok (.ifCond .ne 5, 3) := by decide +kernel
theorem dX3_readGuest_84 : decode cX3_readGuest 84 = .ok (.iconst 0, 1) := by decide +kernel
theorem dX3_readGuest_85 : decode cX3_readGuest 85 = .ok (.ireturn, 1) := by decide +kernel
theorem dX3_readGuest_86 : decode cX3_readGuest 86 = .ok (.aload_n 0, 1) := by decide +kernel
theorem dX3_readGuest_87 : decode cX3_readGuest 87 = .ok (.getfield 9, 3) := by decide +kernel
theorem dX3_readGuest_90 : decode cX3_readGuest 90 = .ok (.getfield 57, 3) := by decide +kernel
theorem dX3_readGuest_93 : decode cX3_readGuest 93 = .ok (.istore_n 3, 1) := by decide +kernel
theorem dX3_readGuest_94 : decode cX3_readGuest 94 = .ok (.iconst 0, 1) := by decide +kernel
theorem dX3_readGuest_95 : decode cX3_readGuest 95 = .ok (.istore 4, 2) := by decide +kernel
theorem dX3_readGuest_97 : decode cX3_readGuest 97 = .ok (.aload_n 0, 1) := by decide +kernel
theorem dX3_readGuest_98 : decode cX3_readGuest 98 = .ok (.getfield 9, 3) := by decide +kernel
theorem dX3_readGuest_101 : decode cX3_readGuest 101 = .ok (.bipush 21, 2) := by decide +kernel
theorem dX3_readGuest_103 : decode cX3_readGuest 103 = .ok (.invokevirtual 25, 3) := by decide +kernel
theorem dX3_readGuest_106 : decode cX3_readGuest 106 = .ok (.ifCond .eq 26, 3) := by decide +kernel
theorem dX3_readGuest_109 : decode cX3_readGuest 109 = .ok (.aload_n 0, 1) := by decide +kernel
theorem dX3_readGuest_110 : decode cX3_readGuest 110 = .ok (.getfield 9, 3) := by decide +kernel
theorem dX3_readGuest_113 : decode cX3_readGuest 113 = .ok (.bipush 99, 2) := by decide +kernel
theorem dX3_readGuest_115 : decode cX3_readGuest 115 = .ok (.invokevirtual 54, 3) := by decide +kernel
theorem dX3_readGuest_118 : decode cX3_readGuest 118 = .ok (.ifCond .ne 5, 3) := by decide +kernel
theorem dX3_readGuest_121 : decode cX3_readGuest 121 = .ok (.iconst 0, 1) := by decide +kernel
theorem dX3_readGuest_122 : decode cX3_readGuest 122 = .ok (.ireturn, 1) := by decide +kernel
theorem dX3_readGuest_123 : decode cX3_readGuest 123 = .ok (.aload_n 0, 1) := by decide +kernel
theorem dX3_readGuest_124 : decode cX3_readGuest 124 = .ok (.getfield 9, 3) := by decide +kernel
theorem dX3_readGuest_127 : decode cX3_readGuest 127 = .ok (.getfield 57, 3) := by decide +kernel
theorem dX3_readGuest_130 : decode cX3_readGuest 130 = .ok (.istore 4, 2) := by decide +kernel
theorem dX3_readGuest_132 : decode cX3_readGuest 132 = .ok (.aload_n 1, 1) := by decide +kernel
theorem dX3_readGuest_133 : decode cX3_readGuest 133 = .ok (.getfield 42, 3) := by decide +kernel
theorem dX3_readGuest_136 : decode cX3_readGuest 136 = .ok (.iload_n 3, 1) := by decide +kernel
theorem dX3_readGuest_137 : decode cX3_readGuest 137 = .ok (.iload_n 2, 1) := by decide +kernel
theorem dX3_readGuest_138 : decode cX3_readGuest 138 = .ok (.iload 4, 2) := by decide +kernel
theorem dX3_readGuest_140 : decode cX3_readGuest 140 = .ok (.aload_n 0, 1) := by decide +kernel
theorem dX3_readGuest_141 : decode cX3_readGuest 141 = .ok (.getfield 9, 3) := by decide +kernel
theorem dX3_readGuest_144 : decode cX3_readGuest 144 = .ok (.bipush 17, 2) := by decide +kernel
theorem dX3_readGuest_146 : decode cX3_readGuest 146 = .ok (.invokevirtual 25, 3) := by decide +kernel
theorem dX3_readGuest_149 : decode cX3_readGuest 149 = .ok (.invokevirtual 60, 3) := by decide +kernel
theorem dX3_readGuest_152 : decode cX3_readGuest 152 = .ok (.iconst 1, 1) := by decide +kernel
theorem dX3_readGuest_153 : decode cX3_readGuest 153 = .ok (.ireturn, 1) := by decide +kernel
def f_X3_readGuest (h1 : Nat) (μ : Mem) : Option (Int32 × Mem) := if 8 ≤ (μ (h1 + 1) 1 3) then (some (0, μ)) else ((f_X8_take μ 10).bind fun (q1 : Int32 × Mem) => if q1.1 = 0 then (some (0, q1.2)) else ((f_X8_take q1.2 12).bind fun (q2 : Int32 × Mem) => if q2.1 = 0 then (some (0, q2.2)) else ((f_X8_takeNumber q2.2 10).bind fun (q3 : Int32 × Mem) => if q3.1 = 0 then (some (0, q3.2)) else ((f_X8_take q3.2 20).bind fun (q4 : Int32 × Mem) => if q4.1 = 0 then (some (0, q4.2)) else ((f_X8_takeNumber q4.2 7).bind fun (q5 : Int32 × Mem) => if q5.1 = 0 then (some (0, q5.2)) else ((f_X8_take q5.2 21).bind fun (q6 : Int32 × Mem) => nm (fun (x7 : Int32) (μ8 : Mem) => (f_X8_take μ8 17).bind fun (q9 : Int32 × Mem) => (f_X1_add h1 q9.2 (q5.2 0 3 5) (q3.2 0 3 5) x7 q9.1).bind fun (q10 : Mem) => some (1, q10)) fun (J132 : Int32 → Mem → Option (Int32 × Mem)) => if q6.1 = 0 then (J132 0 q6.2) else ((f_X8_takeNumber q6.2 99).bind fun (q11 : Int32 × Mem) => if q11.1 = 0 then (some (0, q11.2)) else (J132 (q11.2 0 3 5) q11.2))))))))
set_option maxHeartbeats 4000000 in
set_option maxRecDepth 100000 in
theorem c_X3_readGuest (G : GG) (l : Launch) (h1 : Nat) (hh1 : h1 < 15) (μ : Mem) : CI G l yX3_readGuest (.code yX3_readGuest cX3_readGuest 5 (some .boolean)) 3 [.ref (gad G 0 7), .ref (gad G (h1 + 1) 0)] μ (f_X3_readGuest h1 μ) := by
  refine CI.of (own := "SaturdayKeep$HouseReader") (L0 := [some (.ref (gad G 0 7)), some (.ref (gad G (h1 + 1) 0)), none, none, none]) rfl rfl rfl (Nat.le_of_ble_eq_true rfl) (fun C hl hC => ?_)
  subst hl
  delta f_X3_readGuest
  refine aw_aload_n (pc := 0) (i := 1) hC dX3_readGuest_0 rfl rfl ?_
  refine aw_get (pc := 1) hC inX2 (vH (j := 0) hh1 (by decide)) rfl rfl 0 (by decide) kw185 rfl rfl dX3_readGuest_1 ?_
  refine aw_get (pc := 4) hC inX1 (vH (j := 1) hh1 (by decide)) rfl rfl 3 (by decide) kw144 rfl rfl dX3_readGuest_4 ?_
  refine aw_bipush (pc := 7) (v := 8) hC dX3_readGuest_7 bc8 ?_
  refine aw_icmp_ge (pc := 9) (tgt := 24) hC dX3_readGuest_9 (by decide) (fun _ => ?_) (fun _ => ?_)
  · skip
    refine aw_iconst (pc := 24) (v := 0) hC dX3_readGuest_24 ic0 ?_
    exact aw_zret0 hC dX3_readGuest_25
  · skip
    refine aw_aload_n (pc := 12) (i := 0) hC dX3_readGuest_12 rfl rfl ?_
    refine aw_get (pc := 13) hC inX3 (v0 (j := 7) (by decide)) rfl rfl 0 (by decide) kw85 rfl rfl dX3_readGuest_13 ?_
    refine aw_bipush (pc := 16) (v := 10) hC dX3_readGuest_16 bc10 ?_
    refine aw_callVI (pc := 18) (As := [.int 10]) hC mb_X8_take kw709 (by decide) (c_X8_take G C.2.1   μ 10) (v0 (j := 3) (by decide)) rfl rfl rfl (Nat.le_of_ble_eq_true rfl) dX3_readGuest_18 (fun q1 => ?_)
    refine aw_if_ne (pc := 21) (tgt := 26) hC dX3_readGuest_21 (by decide) (fun _ => ?_) (fun _ => ?_)
    · skip
      refine aw_iconst (pc := 24) (v := 0) hC dX3_readGuest_24 ic0 ?_
      exact aw_zret0 hC dX3_readGuest_25
    · skip
      refine aw_aload_n (pc := 26) (i := 0) hC dX3_readGuest_26 rfl rfl ?_
      refine aw_get (pc := 27) hC inX3 (v0 (j := 7) (by decide)) rfl rfl 0 (by decide) kw85 rfl rfl dX3_readGuest_27 ?_
      refine aw_bipush (pc := 30) (v := 12) hC dX3_readGuest_30 bc12 ?_
      refine aw_callVI (pc := 32) (As := [.int 12]) hC mb_X8_take kw709 (by decide) (c_X8_take G C.2.1   q1.2 12) (v0 (j := 3) (by decide)) rfl rfl rfl (Nat.le_of_ble_eq_true rfl) dX3_readGuest_32 (fun q2 => ?_)
      refine aw_if_eq (pc := 35) (tgt := 50) hC dX3_readGuest_35 (by decide) (fun _ => ?_) (fun _ => ?_)
      · skip
        refine aw_iconst (pc := 50) (v := 0) hC dX3_readGuest_50 ic0 ?_
        exact aw_zret0 hC dX3_readGuest_51
      · skip
        refine aw_aload_n (pc := 38) (i := 0) hC dX3_readGuest_38 rfl rfl ?_
        refine aw_get (pc := 39) hC inX3 (v0 (j := 7) (by decide)) rfl rfl 0 (by decide) kw85 rfl rfl dX3_readGuest_39 ?_
        refine aw_bipush (pc := 42) (v := 10) hC dX3_readGuest_42 bc10 ?_
        refine aw_callVI (pc := 44) (As := [.int 10]) hC mb_X8_takeNumber kw713 (by decide) (c_X8_takeNumber G C.2.1   q2.2 10) (v0 (j := 3) (by decide)) rfl rfl rfl (Nat.le_of_ble_eq_true rfl) dX3_readGuest_44 (fun q3 => ?_)
        refine aw_if_ne (pc := 47) (tgt := 52) hC dX3_readGuest_47 (by decide) (fun _ => ?_) (fun _ => ?_)
        · skip
          refine aw_iconst (pc := 50) (v := 0) hC dX3_readGuest_50 ic0 ?_
          exact aw_zret0 hC dX3_readGuest_51
        · skip
          refine aw_aload_n (pc := 52) (i := 0) hC dX3_readGuest_52 rfl rfl ?_
          refine aw_get (pc := 53) hC inX3 (v0 (j := 7) (by decide)) rfl rfl 0 (by decide) kw85 rfl rfl dX3_readGuest_53 ?_
          refine aw_get (pc := 56) hC inX8 (v0 (j := 3) (by decide)) rfl rfl 5 (by decide) kw64 rfl rfl dX3_readGuest_56 ?_
          refine aw_istore_n (pc := 59) (i := 2) hC dX3_readGuest_59 rfl rfl (by decide) ?_
          refine aw_aload_n (pc := 60) (i := 0) hC dX3_readGuest_60 rfl rfl ?_
          refine aw_get (pc := 61) hC inX3 (v0 (j := 7) (by decide)) rfl rfl 0 (by decide) kw85 rfl rfl dX3_readGuest_61 ?_
          refine aw_bipush (pc := 64) (v := 20) hC dX3_readGuest_64 bc20 ?_
          refine aw_callVI (pc := 66) (As := [.int 20]) hC mb_X8_take kw709 (by decide) (c_X8_take G C.2.1   q3.2 20) (v0 (j := 3) (by decide)) rfl rfl rfl (Nat.le_of_ble_eq_true rfl) dX3_readGuest_66 (fun q4 => ?_)
          refine aw_if_eq (pc := 69) (tgt := 84) hC dX3_readGuest_69 (by decide) (fun _ => ?_) (fun _ => ?_)
          · skip
            refine aw_iconst (pc := 84) (v := 0) hC dX3_readGuest_84 ic0 ?_
            exact aw_zret0 hC dX3_readGuest_85
          · skip
            refine aw_aload_n (pc := 72) (i := 0) hC dX3_readGuest_72 rfl rfl ?_
            refine aw_get (pc := 73) hC inX3 (v0 (j := 7) (by decide)) rfl rfl 0 (by decide) kw85 rfl rfl dX3_readGuest_73 ?_
            refine aw_bipush (pc := 76) (v := 7) hC dX3_readGuest_76 bc7 ?_
            refine aw_callVI (pc := 78) (As := [.int 7]) hC mb_X8_takeNumber kw713 (by decide) (c_X8_takeNumber G C.2.1   q4.2 7) (v0 (j := 3) (by decide)) rfl rfl rfl (Nat.le_of_ble_eq_true rfl) dX3_readGuest_78 (fun q5 => ?_)
            refine aw_if_ne (pc := 81) (tgt := 86) hC dX3_readGuest_81 (by decide) (fun _ => ?_) (fun _ => ?_)
            · skip
              refine aw_iconst (pc := 84) (v := 0) hC dX3_readGuest_84 ic0 ?_
              exact aw_zret0 hC dX3_readGuest_85
            · skip
              refine aw_aload_n (pc := 86) (i := 0) hC dX3_readGuest_86 rfl rfl ?_
              refine aw_get (pc := 87) hC inX3 (v0 (j := 7) (by decide)) rfl rfl 0 (by decide) kw85 rfl rfl dX3_readGuest_87 ?_
              refine aw_get (pc := 90) hC inX8 (v0 (j := 3) (by decide)) rfl rfl 5 (by decide) kw64 rfl rfl dX3_readGuest_90 ?_
              refine aw_istore_n (pc := 93) (i := 3) hC dX3_readGuest_93 rfl rfl (by decide) ?_
              refine aw_iconst (pc := 94) (v := 0) hC dX3_readGuest_94 ic0 ?_
              refine aw_istore (pc := 95) hC dX3_readGuest_95 rfl (by decide) ?_
              refine aw_aload_n (pc := 97) (i := 0) hC dX3_readGuest_97 rfl rfl ?_
              refine aw_get (pc := 98) hC inX3 (v0 (j := 7) (by decide)) rfl rfl 0 (by decide) kw85 rfl rfl dX3_readGuest_98 ?_
              refine aw_bipush (pc := 101) (v := 21) hC dX3_readGuest_101 bc21 ?_
              refine aw_callVI (pc := 103) (As := [.int 21]) hC mb_X8_take kw709 (by decide) (c_X8_take G C.2.1   q5.2 21) (v0 (j := 3) (by decide)) rfl rfl rfl (Nat.le_of_ble_eq_true rfl) dX3_readGuest_103 (fun q6 => ?_)
              refine aw_nmJ (fun (J132 : Int32 → Mem → Option (Int32 × Mem)) => ∀ (x7 : Int32) (μ8 : Mem), AW G C (qI G C 0 0) 0 0 5 μ8 132 [some (.ref (gad G 0 7)), some (.ref (gad G (h1 + 1) 0)), some (.int (q3.2 0 3 5)), some (.int (q5.2 0 3 5)), some (.int x7)] [] (J132 x7 μ8)) (fun x7 μ8 => ?_) (fun J132 hJ132 => ?_)
              · skip
                refine aw_aload_n (pc := 132) (i := 1) hC dX3_readGuest_132 rfl rfl ?_
                refine aw_get (pc := 133) hC inX2 (vH (j := 0) hh1 (by decide)) rfl rfl 0 (by decide) kw185 rfl rfl dX3_readGuest_133 ?_
                refine aw_iload_n (pc := 136) (i := 3) hC dX3_readGuest_136 rfl rfl ?_
                refine aw_iload_n (pc := 137) (i := 2) hC dX3_readGuest_137 rfl rfl ?_
                refine aw_iload (pc := 138) hC dX3_readGuest_138 rfl ?_
                refine aw_aload_n (pc := 140) (i := 0) hC dX3_readGuest_140 rfl rfl ?_
                refine aw_get (pc := 141) hC inX3 (v0 (j := 7) (by decide)) rfl rfl 0 (by decide) kw85 rfl rfl dX3_readGuest_141 ?_
                refine aw_bipush (pc := 144) (v := 17) hC dX3_readGuest_144 bc17 ?_
                refine aw_callVI (pc := 146) (As := [.int 17]) hC mb_X8_take kw709 (by decide) (c_X8_take G C.2.1   μ8 17) (v0 (j := 3) (by decide)) rfl rfl rfl (Nat.le_of_ble_eq_true rfl) dX3_readGuest_146 (fun q9 => ?_)
                refine aw_callVV (pc := 149) (As := [.int (q5.2 0 3 5), .int (q3.2 0 3 5), .int x7, .int q9.1]) hC mb_X1_add kw717 (by decide) (c_X1_add G C.2.1 h1 (Nat.lt_of_lt_of_le hh1 (by decide)) q9.2 (q5.2 0 3 5) (q3.2 0 3 5) x7 q9.1) (vH (j := 1) hh1 (by decide)) rfl rfl rfl (Nat.le_of_ble_eq_true rfl) dX3_readGuest_149 (fun q10 => ?_)
                refine aw_iconst (pc := 152) (v := 1) hC dX3_readGuest_152 ic1 ?_
                exact aw_zret1 hC dX3_readGuest_153
              · skip
                refine aw_if_eq (pc := 106) (tgt := 132) hC dX3_readGuest_106 (by decide) (fun _ => ?_) (fun _ => ?_)
                · skip
                  exact hJ132 0 q6.2
                · skip
                  refine aw_aload_n (pc := 109) (i := 0) hC dX3_readGuest_109 rfl rfl ?_
                  refine aw_get (pc := 110) hC inX3 (v0 (j := 7) (by decide)) rfl rfl 0 (by decide) kw85 rfl rfl dX3_readGuest_110 ?_
                  refine aw_bipush (pc := 113) (v := 99) hC dX3_readGuest_113 bc99 ?_
                  refine aw_callVI (pc := 115) (As := [.int 99]) hC mb_X8_takeNumber kw713 (by decide) (c_X8_takeNumber G C.2.1   q6.2 99) (v0 (j := 3) (by decide)) rfl rfl rfl (Nat.le_of_ble_eq_true rfl) dX3_readGuest_115 (fun q11 => ?_)
                  refine aw_if_ne (pc := 118) (tgt := 123) hC dX3_readGuest_118 (by decide) (fun _ => ?_) (fun _ => ?_)
                  · skip
                    refine aw_iconst (pc := 121) (v := 0) hC dX3_readGuest_121 ic0 ?_
                    exact aw_zret0 hC dX3_readGuest_122
                  · skip
                    refine aw_aload_n (pc := 123) (i := 0) hC dX3_readGuest_123 rfl rfl ?_
                    refine aw_get (pc := 124) hC inX3 (v0 (j := 7) (by decide)) rfl rfl 0 (by decide) kw85 rfl rfl dX3_readGuest_124 ?_
                    refine aw_get (pc := 127) hC inX8 (v0 (j := 3) (by decide)) rfl rfl 5 (by decide) kw64 rfl rfl dX3_readGuest_127 ?_
                    refine aw_istore (pc := 130) hC dX3_readGuest_130 rfl (by decide) ?_
                    exact hJ132 (q11.2 0 3 5) q11.2
theorem dX3_readHole_0 : decode cX3_readHole 0 = .ok (.aload_n 0, 1) := by decide +kernel
theorem dX3_readHole_1 : decode cX3_readHole 1 = .ok (.getfield 9, 3) := by decide +kernel
theorem dX3_readHole_4 : decode cX3_readHole 4 = .ok (.bipush 27, 2) := by decide +kernel
theorem dX3_readHole_6 : decode cX3_readHole 6 = .ok (.invokevirtual 25, 3) := by decide +kernel
theorem dX3_readHole_9 : decode cX3_readHole 9 = .ok (.ifCond .eq 15, 3) := by decide +kernel
theorem dX3_readHole_12 : decode cX3_readHole 12 = .ok (.aload_n 0, 1) := by decide +kernel
theorem dX3_readHole_13 : decode cX3_readHole 13 = .ok (.getfield 9, 3) := by decide +kernel
theorem dX3_readHole_16 : decode cX3_readHole 16 = .ok (.bipush 7, 2) := by decide +kernel
theorem dX3_readHole_18 : decode cX3_readHole 18 = .ok (.invokevirtual 54, 3) := by decide +kernel
theorem dX3_readHole_21 : decode cX3_readHole 21 = .ok (.ifCond .ne 5, 3) := by decide +kernel
theorem dX3_readHole_24 : decode cX3_readHole 24 = .ok (.iconst 0, 1) := by decide +kernel
theorem dX3_readHole_25 : decode cX3_readHole 25 = .ok (.ireturn, 1) := by decide +kernel
theorem dX3_readHole_26 : decode cX3_readHole 26 = .ok (.aload_n 0, 1) := by decide +kernel
theorem dX3_readHole_27 : decode cX3_readHole 27 = .ok (.getfield 9, 3) := by decide +kernel
theorem dX3_readHole_30 : decode cX3_readHole 30 = .ok (.getfield 57, 3) := by decide +kernel
theorem dX3_readHole_33 : decode cX3_readHole 33 = .ok (.istore_n 2, 1) := by decide +kernel
theorem dX3_readHole_34 : decode cX3_readHole 34 = .ok (.aload_n 0, 1) := by decide +kernel
theorem dX3_readHole_35 : decode cX3_readHole 35 = .ok (.getfield 9, 3) := by decide +kernel
theorem dX3_readHole_38 : decode cX3_readHole 38 = .ok (.getfield 64, 3) := by decide +kernel
theorem dX3_readHole_41 : decode cX3_readHole 41 = .ok (.istore_n 3, 1) := by decide +kernel
theorem dX3_readHole_42 : decode cX3_readHole 42 = .ok (.aload_n 0, 1) := by decide +kernel
theorem dX3_readHole_43 : decode cX3_readHole 43 = .ok (.getfield 9, 3) := by decide +kernel
theorem dX3_readHole_46 : decode cX3_readHole 46 = .ok (.bipush 7, 2) := by decide +kernel
theorem dX3_readHole_48 : decode cX3_readHole 48 = .ok (.invokevirtual 54, 3) := by decide +kernel
theorem dX3_readHole_51 : decode cX3_readHole 51 = .ok (.ifCond .ne 5, 3) := by decide +kernel
theorem dX3_readHole_54 : decode cX3_readHole 54 = .ok (.iconst 0, 1) := by decide +kernel
theorem dX3_readHole_55 : decode cX3_readHole 55 = .ok (.ireturn, 1) := by decide +kernel
theorem dX3_readHole_56 : decode cX3_readHole 56 = .ok (.aload_n 0, 1) := by decide +kernel
theorem dX3_readHole_57 : decode cX3_readHole 57 = .ok (.getfield 9, 3) := by decide +kernel
theorem dX3_readHole_60 : decode cX3_readHole 60 = .ok (.getfield 57, 3) := by decide +kernel
theorem dX3_readHole_63 : decode cX3_readHole 63 = .ok (.iload_n 2, 1) := by decide +kernel
theorem dX3_readHole_64 : decode cX3_readHole 64 = .ok (.if_icmp .ne 13, 3) := by decide +kernel
theorem dX3_readHole_67 : decode cX3_readHole 67 = .ok (.aload_n 0, 1) := by decide +kernel
theorem dX3_readHole_68 : decode cX3_readHole 68 = .ok (.getfield 9, 3) := by decide +kernel
theorem dX3_readHole_71 : decode cX3_readHole 71 = .ok (.iload_n 3, 1) := by decide +kernel
theorem dX3_readHole_72 : decode cX3_readHole 72 = .ok (.putfield 64, 3) := by decide +kernel
theorem dX3_readHole_75 : decode cX3_readHole 75 = .ok (.iconst 0, 1) := by decide +kernel
theorem dX3_readHole_76 : decode cX3_readHole 76 = .ok (.ireturn, 1) := by decide +kernel
theorem dX3_readHole_77 : decode cX3_readHole 77 = .ok (.aload_n 1, 1) := by decide +kernel
theorem dX3_readHole_78 : decode cX3_readHole 78 = .ok (.iload_n 2, 1) := by decide +kernel
theorem dX3_readHole_79 : decode cX3_readHole 79 = .ok (.aload_n 0, 1) := by decide +kernel
theorem dX3_readHole_80 : decode cX3_readHole 80 = .ok (.getfield 9, 3) := by decide +kernel
theorem dX3_readHole_83 : decode cX3_readHole 83 = .ok (.getfield 57, 3) := by decide +kernel
theorem dX3_readHole_86 : decode cX3_readHole 86 = .ok (.iconst 1, 1) := by decide +kernel
theorem dX3_readHole_87 : decode cX3_readHole 87 = .ok (.invokevirtual 67, 3) := by decide +kernel
theorem dX3_readHole_90 : decode cX3_readHole 90 = .ok (.iconst 1, 1) := by decide +kernel
theorem dX3_readHole_91 : decode cX3_readHole 91 = .ok (.ireturn, 1) := by decide +kernel
def f_X3_readHole (h1 : Nat) (μ : Mem) : Option (Int32 × Mem) := (f_X8_take μ 27).bind fun (q1 : Int32 × Mem) => if q1.1 = 0 then (some (0, q1.2)) else ((f_X8_takeNumber q1.2 7).bind fun (q2 : Int32 × Mem) => if q2.1 = 0 then (some (0, q2.2)) else ((f_X8_takeNumber q2.2 7).bind fun (q3 : Int32 × Mem) => if q3.1 = 0 then (some (0, q3.2)) else (if (q3.2 0 3 5) = (q2.2 0 3 5) then (nm (upm q3.2 0 3 4 (q2.2 0 3 4)) fun (μ4 : Mem) => some (0, μ4)) else ((f_X2_setHole h1 q3.2 (q2.2 0 3 5) (q3.2 0 3 5) 1).bind fun (q5 : Mem) => some (1, q5)))))
set_option maxHeartbeats 4000000 in
set_option maxRecDepth 100000 in
theorem c_X3_readHole (G : GG) (l : Launch) (h1 : Nat) (hh1 : h1 < 15) (μ : Mem) : CI G l yX3_readHole (.code yX3_readHole cX3_readHole 4 (some .boolean)) 3 [.ref (gad G 0 7), .ref (gad G (h1 + 1) 0)] μ (f_X3_readHole h1 μ) := by
  refine CI.of (own := "SaturdayKeep$HouseReader") (L0 := [some (.ref (gad G 0 7)), some (.ref (gad G (h1 + 1) 0)), none, none]) rfl rfl rfl (Nat.le_of_ble_eq_true rfl) (fun C hl hC => ?_)
  subst hl
  delta f_X3_readHole
  refine aw_aload_n (pc := 0) (i := 0) hC dX3_readHole_0 rfl rfl ?_
  refine aw_get (pc := 1) hC inX3 (v0 (j := 7) (by decide)) rfl rfl 0 (by decide) kw85 rfl rfl dX3_readHole_1 ?_
  refine aw_bipush (pc := 4) (v := 27) hC dX3_readHole_4 bc27 ?_
  refine aw_callVI (pc := 6) (As := [.int 27]) hC mb_X8_take kw709 (by decide) (c_X8_take G C.2.1   μ 27) (v0 (j := 3) (by decide)) rfl rfl rfl (Nat.le_of_ble_eq_true rfl) dX3_readHole_6 (fun q1 => ?_)
  refine aw_if_eq (pc := 9) (tgt := 24) hC dX3_readHole_9 (by decide) (fun _ => ?_) (fun _ => ?_)
  · skip
    refine aw_iconst (pc := 24) (v := 0) hC dX3_readHole_24 ic0 ?_
    exact aw_zret0 hC dX3_readHole_25
  · skip
    refine aw_aload_n (pc := 12) (i := 0) hC dX3_readHole_12 rfl rfl ?_
    refine aw_get (pc := 13) hC inX3 (v0 (j := 7) (by decide)) rfl rfl 0 (by decide) kw85 rfl rfl dX3_readHole_13 ?_
    refine aw_bipush (pc := 16) (v := 7) hC dX3_readHole_16 bc7 ?_
    refine aw_callVI (pc := 18) (As := [.int 7]) hC mb_X8_takeNumber kw713 (by decide) (c_X8_takeNumber G C.2.1   q1.2 7) (v0 (j := 3) (by decide)) rfl rfl rfl (Nat.le_of_ble_eq_true rfl) dX3_readHole_18 (fun q2 => ?_)
    refine aw_if_ne (pc := 21) (tgt := 26) hC dX3_readHole_21 (by decide) (fun _ => ?_) (fun _ => ?_)
    · skip
      refine aw_iconst (pc := 24) (v := 0) hC dX3_readHole_24 ic0 ?_
      exact aw_zret0 hC dX3_readHole_25
    · skip
      refine aw_aload_n (pc := 26) (i := 0) hC dX3_readHole_26 rfl rfl ?_
      refine aw_get (pc := 27) hC inX3 (v0 (j := 7) (by decide)) rfl rfl 0 (by decide) kw85 rfl rfl dX3_readHole_27 ?_
      refine aw_get (pc := 30) hC inX8 (v0 (j := 3) (by decide)) rfl rfl 5 (by decide) kw64 rfl rfl dX3_readHole_30 ?_
      refine aw_istore_n (pc := 33) (i := 2) hC dX3_readHole_33 rfl rfl (by decide) ?_
      refine aw_aload_n (pc := 34) (i := 0) hC dX3_readHole_34 rfl rfl ?_
      refine aw_get (pc := 35) hC inX3 (v0 (j := 7) (by decide)) rfl rfl 0 (by decide) kw85 rfl rfl dX3_readHole_35 ?_
      refine aw_get (pc := 38) hC inX8 (v0 (j := 3) (by decide)) rfl rfl 4 (by decide) kw62 rfl rfl dX3_readHole_38 ?_
      refine aw_istore_n (pc := 41) (i := 3) hC dX3_readHole_41 rfl rfl (by decide) ?_
      refine aw_aload_n (pc := 42) (i := 0) hC dX3_readHole_42 rfl rfl ?_
      refine aw_get (pc := 43) hC inX3 (v0 (j := 7) (by decide)) rfl rfl 0 (by decide) kw85 rfl rfl dX3_readHole_43 ?_
      refine aw_bipush (pc := 46) (v := 7) hC dX3_readHole_46 bc7 ?_
      refine aw_callVI (pc := 48) (As := [.int 7]) hC mb_X8_takeNumber kw713 (by decide) (c_X8_takeNumber G C.2.1   q2.2 7) (v0 (j := 3) (by decide)) rfl rfl rfl (Nat.le_of_ble_eq_true rfl) dX3_readHole_48 (fun q3 => ?_)
      refine aw_if_ne (pc := 51) (tgt := 56) hC dX3_readHole_51 (by decide) (fun _ => ?_) (fun _ => ?_)
      · skip
        refine aw_iconst (pc := 54) (v := 0) hC dX3_readHole_54 ic0 ?_
        exact aw_zret0 hC dX3_readHole_55
      · skip
        refine aw_aload_n (pc := 56) (i := 0) hC dX3_readHole_56 rfl rfl ?_
        refine aw_get (pc := 57) hC inX3 (v0 (j := 7) (by decide)) rfl rfl 0 (by decide) kw85 rfl rfl dX3_readHole_57 ?_
        refine aw_get (pc := 60) hC inX8 (v0 (j := 3) (by decide)) rfl rfl 5 (by decide) kw64 rfl rfl dX3_readHole_60 ?_
        refine aw_iload_n (pc := 63) (i := 2) hC dX3_readHole_63 rfl rfl ?_
        refine aw_icmp_ne (pc := 64) (tgt := 77) hC dX3_readHole_64 (by decide) (fun _ => ?_) (fun _ => ?_)
        · skip
          refine aw_aload_n (pc := 67) (i := 0) hC dX3_readHole_67 rfl rfl ?_
          refine aw_get (pc := 68) hC inX3 (v0 (j := 7) (by decide)) rfl rfl 0 (by decide) kw85 rfl rfl dX3_readHole_68 ?_
          refine aw_iload_n (pc := 71) (i := 3) hC dX3_readHole_71 rfl rfl ?_
          refine aw_putIN (pc := 72) hC inX8 (v0 (j := 3) (by decide)) rfl rfl 4 (by decide) kw62 rfl tyX8 tyX8_ok nmX8 rfl rfl (Nat.le_of_ble_eq_true rfl) rfl dX3_readHole_72 (fun μ4 => ?_)
          refine aw_iconst (pc := 75) (v := 0) hC dX3_readHole_75 ic0 ?_
          exact aw_zret0 hC dX3_readHole_76
        · skip
          refine aw_aload_n (pc := 77) (i := 1) hC dX3_readHole_77 rfl rfl ?_
          refine aw_iload_n (pc := 78) (i := 2) hC dX3_readHole_78 rfl rfl ?_
          refine aw_aload_n (pc := 79) (i := 0) hC dX3_readHole_79 rfl rfl ?_
          refine aw_get (pc := 80) hC inX3 (v0 (j := 7) (by decide)) rfl rfl 0 (by decide) kw85 rfl rfl dX3_readHole_80 ?_
          refine aw_get (pc := 83) hC inX8 (v0 (j := 3) (by decide)) rfl rfl 5 (by decide) kw64 rfl rfl dX3_readHole_83 ?_
          refine aw_iconst (pc := 86) (v := 1) hC dX3_readHole_86 ic1 ?_
          refine aw_callVV (pc := 87) (As := [.int (q2.2 0 3 5), .int (q3.2 0 3 5), .int 1]) hC mb_X2_setHole kw725 (by decide) (c_X2_setHole G C.2.1 h1 (Nat.lt_of_lt_of_le hh1 (by decide)) q3.2 (q2.2 0 3 5) (q3.2 0 3 5) 1) (vH (j := 0) hh1 (by decide)) rfl rfl rfl (Nat.le_of_ble_eq_true rfl) dX3_readHole_87 (fun q5 => ?_)
          refine aw_iconst (pc := 90) (v := 1) hC dX3_readHole_90 ic1 ?_
          exact aw_zret1 hC dX3_readHole_91
theorem dX3_readShift_0 : decode cX3_readShift 0 = .ok (.aload_n 0, 1) := by decide +kernel
theorem dX3_readShift_1 : decode cX3_readShift 1 = .ok (.getfield 9, 3) := by decide +kernel
theorem dX3_readShift_4 : decode cX3_readShift 4 = .ok (.bipush 29, 2) := by decide +kernel
theorem dX3_readShift_6 : decode cX3_readShift 6 = .ok (.invokevirtual 25, 3) := by decide +kernel
theorem dX3_readShift_9 : decode cX3_readShift 9 = .ok (.ifCond .eq 14, 3) := by decide +kernel
theorem dX3_readShift_12 : decode cX3_readShift 12 = .ok (.aload_n 0, 1) := by decide +kernel
theorem dX3_readShift_13 : decode cX3_readShift 13 = .ok (.getfield 9, 3) := by decide +kernel
theorem dX3_readShift_16 : decode cX3_readShift 16 = .ok (.iconst 1, 1) := by decide +kernel
theorem dX3_readShift_17 : decode cX3_readShift 17 = .ok (.invokevirtual 54, 3) := by decide +kernel
theorem dX3_readShift_20 : decode cX3_readShift 20 = .ok (.ifCond .ne 5, 3) := by decide +kernel
theorem dX3_readShift_23 : decode cX3_readShift 23 = .ok (.iconst 0, 1) := by decide +kernel
theorem dX3_readShift_24 : decode cX3_readShift 24 = .ok (.ireturn, 1) := by decide +kernel
theorem dX3_readShift_25 : decode cX3_readShift 25 = .ok (.aload_n 0, 1) := by decide +kernel
theorem dX3_readShift_26 : decode cX3_readShift 26 = .ok (.getfield 9, 3) := by decide +kernel
theorem dX3_readShift_29 : decode cX3_readShift 29 = .ok (.getfield 57, 3) := by decide +kernel
theorem dX3_readShift_32 : decode cX3_readShift 32 = .ok (.istore_n 2, 1) := by decide +kernel
theorem dX3_readShift_33 : decode cX3_readShift 33 = .ok (.aload_n 0, 1) := by decide +kernel
theorem dX3_readShift_34 : decode cX3_readShift 34 = .ok (.getfield 9, 3) := by decide +kernel
theorem dX3_readShift_37 : decode cX3_readShift 37 = .ok (.bipush 6, 2) := by decide +kernel
theorem dX3_readShift_39 : decode cX3_readShift 39 = .ok (.invokevirtual 54, 3) := by decide +kernel
theorem dX3_readShift_42 : decode cX3_readShift 42 = .ok (.ifCond .ne 5, 3) := by decide +kernel
theorem dX3_readShift_45 : decode cX3_readShift 45 = .ok (.iconst 0, 1) := by decide +kernel
theorem dX3_readShift_46 : decode cX3_readShift 46 = .ok (.ireturn, 1) := by decide +kernel
theorem dX3_readShift_47 : decode cX3_readShift 47 = .ok (.aload_n 1, 1) := by decide +kernel
theorem dX3_readShift_48 : decode cX3_readShift 48 = .ok (.iload_n 2, 1) := by decide +kernel
theorem dX3_readShift_49 : decode cX3_readShift 49 = .ok (.aload_n 0, 1) := by decide +kernel
theorem dX3_readShift_50 : decode cX3_readShift 50 = .ok (.getfield 9, 3) := by decide +kernel
theorem dX3_readShift_53 : decode cX3_readShift 53 = .ok (.getfield 57, 3) := by decide +kernel
theorem dX3_readShift_56 : decode cX3_readShift 56 = .ok (.invokevirtual 71, 3) := by decide +kernel
theorem dX3_readShift_59 : decode cX3_readShift 59 = .ok (.iconst 1, 1) := by decide +kernel
theorem dX3_readShift_60 : decode cX3_readShift 60 = .ok (.ireturn, 1) := by decide +kernel
def f_X3_readShift (h1 : Nat) (μ : Mem) : Option (Int32 × Mem) := (f_X8_take μ 29).bind fun (q1 : Int32 × Mem) => if q1.1 = 0 then (some (0, q1.2)) else ((f_X8_takeNumber q1.2 1).bind fun (q2 : Int32 × Mem) => if q2.1 = 0 then (some (0, q2.2)) else ((f_X8_takeNumber q2.2 6).bind fun (q3 : Int32 × Mem) => if q3.1 = 0 then (some (0, q3.2)) else ((f_X2_setShift h1 q3.2 (q2.2 0 3 5) (q3.2 0 3 5)).bind fun (q4 : Mem) => some (1, q4))))
set_option maxHeartbeats 4000000 in
set_option maxRecDepth 100000 in
theorem c_X3_readShift (G : GG) (l : Launch) (h1 : Nat) (hh1 : h1 < 15) (μ : Mem) : CI G l yX3_readShift (.code yX3_readShift cX3_readShift 3 (some .boolean)) 2 [.ref (gad G 0 7), .ref (gad G (h1 + 1) 0)] μ (f_X3_readShift h1 μ) := by
  refine CI.of (own := "SaturdayKeep$HouseReader") (L0 := [some (.ref (gad G 0 7)), some (.ref (gad G (h1 + 1) 0)), none]) rfl rfl rfl (Nat.le_of_ble_eq_true rfl) (fun C hl hC => ?_)
  subst hl
  delta f_X3_readShift
  refine aw_aload_n (pc := 0) (i := 0) hC dX3_readShift_0 rfl rfl ?_
  refine aw_get (pc := 1) hC inX3 (v0 (j := 7) (by decide)) rfl rfl 0 (by decide) kw85 rfl rfl dX3_readShift_1 ?_
  refine aw_bipush (pc := 4) (v := 29) hC dX3_readShift_4 bc29 ?_
  refine aw_callVI (pc := 6) (As := [.int 29]) hC mb_X8_take kw709 (by decide) (c_X8_take G C.2.1   μ 29) (v0 (j := 3) (by decide)) rfl rfl rfl (Nat.le_of_ble_eq_true rfl) dX3_readShift_6 (fun q1 => ?_)
  refine aw_if_eq (pc := 9) (tgt := 23) hC dX3_readShift_9 (by decide) (fun _ => ?_) (fun _ => ?_)
  · skip
    refine aw_iconst (pc := 23) (v := 0) hC dX3_readShift_23 ic0 ?_
    exact aw_zret0 hC dX3_readShift_24
  · skip
    refine aw_aload_n (pc := 12) (i := 0) hC dX3_readShift_12 rfl rfl ?_
    refine aw_get (pc := 13) hC inX3 (v0 (j := 7) (by decide)) rfl rfl 0 (by decide) kw85 rfl rfl dX3_readShift_13 ?_
    refine aw_iconst (pc := 16) (v := 1) hC dX3_readShift_16 ic1 ?_
    refine aw_callVI (pc := 17) (As := [.int 1]) hC mb_X8_takeNumber kw713 (by decide) (c_X8_takeNumber G C.2.1   q1.2 1) (v0 (j := 3) (by decide)) rfl rfl rfl (Nat.le_of_ble_eq_true rfl) dX3_readShift_17 (fun q2 => ?_)
    refine aw_if_ne (pc := 20) (tgt := 25) hC dX3_readShift_20 (by decide) (fun _ => ?_) (fun _ => ?_)
    · skip
      refine aw_iconst (pc := 23) (v := 0) hC dX3_readShift_23 ic0 ?_
      exact aw_zret0 hC dX3_readShift_24
    · skip
      refine aw_aload_n (pc := 25) (i := 0) hC dX3_readShift_25 rfl rfl ?_
      refine aw_get (pc := 26) hC inX3 (v0 (j := 7) (by decide)) rfl rfl 0 (by decide) kw85 rfl rfl dX3_readShift_26 ?_
      refine aw_get (pc := 29) hC inX8 (v0 (j := 3) (by decide)) rfl rfl 5 (by decide) kw64 rfl rfl dX3_readShift_29 ?_
      refine aw_istore_n (pc := 32) (i := 2) hC dX3_readShift_32 rfl rfl (by decide) ?_
      refine aw_aload_n (pc := 33) (i := 0) hC dX3_readShift_33 rfl rfl ?_
      refine aw_get (pc := 34) hC inX3 (v0 (j := 7) (by decide)) rfl rfl 0 (by decide) kw85 rfl rfl dX3_readShift_34 ?_
      refine aw_bipush (pc := 37) (v := 6) hC dX3_readShift_37 bc6 ?_
      refine aw_callVI (pc := 39) (As := [.int 6]) hC mb_X8_takeNumber kw713 (by decide) (c_X8_takeNumber G C.2.1   q2.2 6) (v0 (j := 3) (by decide)) rfl rfl rfl (Nat.le_of_ble_eq_true rfl) dX3_readShift_39 (fun q3 => ?_)
      refine aw_if_ne (pc := 42) (tgt := 47) hC dX3_readShift_42 (by decide) (fun _ => ?_) (fun _ => ?_)
      · skip
        refine aw_iconst (pc := 45) (v := 0) hC dX3_readShift_45 ic0 ?_
        exact aw_zret0 hC dX3_readShift_46
      · skip
        refine aw_aload_n (pc := 47) (i := 1) hC dX3_readShift_47 rfl rfl ?_
        refine aw_iload_n (pc := 48) (i := 2) hC dX3_readShift_48 rfl rfl ?_
        refine aw_aload_n (pc := 49) (i := 0) hC dX3_readShift_49 rfl rfl ?_
        refine aw_get (pc := 50) hC inX3 (v0 (j := 7) (by decide)) rfl rfl 0 (by decide) kw85 rfl rfl dX3_readShift_50 ?_
        refine aw_get (pc := 53) hC inX8 (v0 (j := 3) (by decide)) rfl rfl 5 (by decide) kw64 rfl rfl dX3_readShift_53 ?_
        refine aw_callVV (pc := 56) (As := [.int (q2.2 0 3 5), .int (q3.2 0 3 5)]) hC mb_X2_setShift kw733 (by decide) (c_X2_setShift G C.2.1 h1 (Nat.lt_of_lt_of_le hh1 (by decide)) q3.2 (q2.2 0 3 5) (q3.2 0 3 5)) (vH (j := 0) hh1 (by decide)) rfl rfl rfl (Nat.le_of_ble_eq_true rfl) dX3_readShift_56 (fun q4 => ?_)
        refine aw_iconst (pc := 59) (v := 1) hC dX3_readShift_59 ic1 ?_
        exact aw_zret1 hC dX3_readShift_60
theorem dX3_readNumber_0 : decode cX3_readNumber 0 = .ok (.aload_n 0, 1) := by decide +kernel
theorem dX3_readNumber_1 : decode cX3_readNumber 1 = .ok (.getfield 9, 3) := by decide +kernel
theorem dX3_readNumber_4 : decode cX3_readNumber 4 = .ok (.iload_n 2, 1) := by decide +kernel
theorem dX3_readNumber_5 : decode cX3_readNumber 5 = .ok (.invokevirtual 25, 3) := by decide +kernel
theorem dX3_readNumber_8 : decode cX3_readNumber 8 = .ok (.ifCond .eq 14, 3) := by decide +kernel
theorem dX3_readNumber_11 : decode cX3_readNumber 11 = .ok (.aload_n 0, 1) := by decide +kernel
theorem dX3_readNumber_12 : decode cX3_readNumber 12 = .ok (.getfield 9, 3) := by decide +kernel
theorem dX3_readNumber_15 : decode cX3_readNumber 15 = .ok (.iload_n 3, 1) := by decide +kernel
theorem dX3_readNumber_16 : decode cX3_readNumber 16 = .ok (.invokevirtual 54, 3) := by decide +kernel
theorem dX3_readNumber_19 : decode cX3_readNumber 19 = .ok (.ifCond .ne 5, 3) := by decide +kernel
theorem dX3_readNumber_22 : decode cX3_readNumber 22 = .ok (.iconst 0, 1) := by decide +kernel
theorem dX3_readNumber_23 : decode cX3_readNumber 23 = .ok (.ireturn, 1) := by decide +kernel
theorem dX3_readNumber_24 : decode cX3_readNumber 24 = .ok (.iload_n 2, 1) := by decide +kernel
theorem dX3_readNumber_25 : decode cX3_readNumber 25 = .ok (.tableswitch 109 28 33 #[39, 109, 53, 67, 81, 95], 39) := by decide +kernel
theorem dX3_readNumber_64 : decode cX3_readNumber 64 = .ok (.aload_n 1, 1) := by decide +kernel
theorem dX3_readNumber_65 : decode cX3_readNumber 65 = .ok (.aload_n 0, 1) := by decide +kernel
theorem dX3_readNumber_66 : decode cX3_readNumber 66 = .ok (.getfield 9, 3) := by decide +kernel
theorem dX3_readNumber_69 : decode cX3_readNumber 69 = .ok (.getfield 57, 3) := by decide +kernel
theorem dX3_readNumber_72 : decode cX3_readNumber 72 = .ok (.putfield 75, 3) := by decide +kernel
theorem dX3_readNumber_75 : decode cX3_readNumber 75 = .ok (.goto 70, 3) := by decide +kernel
theorem dX3_readNumber_78 : decode cX3_readNumber 78 = .ok (.aload_n 1, 1) := by decide +kernel
theorem dX3_readNumber_79 : decode cX3_readNumber 79 = .ok (.aload_n 0, 1) := by decide +kernel
theorem dX3_readNumber_80 : decode cX3_readNumber 80 = .ok (.getfield 9, 3) := by decide +kernel
theorem dX3_readNumber_83 : decode cX3_readNumber 83 = .ok (.getfield 57, 3) := by decide +kernel
theorem dX3_readNumber_86 : decode cX3_readNumber 86 = .ok (.putfield 78, 3) := by decide +kernel
theorem dX3_readNumber_89 : decode cX3_readNumber 89 = .ok (.goto 56, 3) := by decide +kernel
theorem dX3_readNumber_92 : decode cX3_readNumber 92 = .ok (.aload_n 1, 1) := by decide +kernel
theorem dX3_readNumber_93 : decode cX3_readNumber 93 = .ok (.aload_n 0, 1) := by decide +kernel
theorem dX3_readNumber_94 : decode cX3_readNumber 94 = .ok (.getfield 9, 3) := by decide +kernel
theorem dX3_readNumber_97 : decode cX3_readNumber 97 = .ok (.getfield 57, 3) := by decide +kernel
theorem dX3_readNumber_100 : decode cX3_readNumber 100 = .ok (.putfield 81, 3) := by decide +kernel
theorem dX3_readNumber_103 : decode cX3_readNumber 103 = .ok (.goto 42, 3) := by decide +kernel
theorem dX3_readNumber_106 : decode cX3_readNumber 106 = .ok (.aload_n 1, 1) := by decide +kernel
theorem dX3_readNumber_107 : decode cX3_readNumber 107 = .ok (.aload_n 0, 1) := by decide +kernel
theorem dX3_readNumber_108 : decode cX3_readNumber 108 = .ok (.getfield 9, 3) := by decide +kernel
theorem dX3_readNumber_111 : decode cX3_readNumber 111 = .ok (.getfield 57, 3) := by decide +kernel
theorem dX3_readNumber_114 : decode cX3_readNumber 114 = .ok (.putfield 84, 3) := by decide +kernel
theorem dX3_readNumber_117 : decode cX3_readNumber 117 = .ok (.goto 28, 3) := by decide +kernel
theorem dX3_readNumber_120 : decode cX3_readNumber 120 = .ok (.aload_n 1, 1) := by decide +kernel
theorem dX3_readNumber_121 : decode cX3_readNumber 121 = .ok (.aload_n 0, 1) := by decide +kernel
theorem dX3_readNumber_122 : decode cX3_readNumber 122 = .ok (.getfield 9, 3) := by decide +kernel
theorem dX3_readNumber_125 : decode cX3_readNumber 125 = .ok (.getfield 57, 3) := by decide +kernel
theorem dX3_readNumber_128 : decode cX3_readNumber 128 = .ok (.putfield 87, 3) := by decide +kernel
theorem dX3_readNumber_131 : decode cX3_readNumber 131 = .ok (.goto 14, 3) := by decide +kernel
theorem dX3_readNumber_134 : decode cX3_readNumber 134 = .ok (.aload_n 1, 1) := by decide +kernel
theorem dX3_readNumber_135 : decode cX3_readNumber 135 = .ok (.aload_n 0, 1) := by decide +kernel
theorem dX3_readNumber_136 : decode cX3_readNumber 136 = .ok (.getfield 9, 3) := by decide +kernel
theorem dX3_readNumber_139 : decode cX3_readNumber 139 = .ok (.getfield 57, 3) := by decide +kernel
theorem dX3_readNumber_142 : decode cX3_readNumber 142 = .ok (.putfield 90, 3) := by decide +kernel
theorem dX3_readNumber_145 : decode cX3_readNumber 145 = .ok (.iconst 1, 1) := by decide +kernel
theorem dX3_readNumber_146 : decode cX3_readNumber 146 = .ok (.ireturn, 1) := by decide +kernel
def f_X3_readNumber (h1 : Nat) (μ : Mem) (a2 : Int32) (a3 : Int32) : Option (Int32 × Mem) := (f_X8_take μ a2).bind fun (q1 : Int32 × Mem) => if q1.1 = 0 then (some (0, q1.2)) else ((f_X8_takeNumber q1.2 a3).bind fun (q2 : Int32 × Mem) => if q2.1 = 0 then (some (0, q2.2)) else (if a2 = 28 then (nm (upm q2.2 (h1 + 1) 0 8 (q2.2 0 3 5)) fun (μ3 : Mem) => some (1, μ3)) else (if a2 = 29 then (nm (upm q2.2 (h1 + 1) 0 13 (q2.2 0 3 5)) fun (μ4 : Mem) => some (1, μ4)) else (if a2 = 30 then (nm (upm q2.2 (h1 + 1) 0 7 (q2.2 0 3 5)) fun (μ5 : Mem) => some (1, μ5)) else (if a2 = 31 then (nm (upm q2.2 (h1 + 1) 0 9 (q2.2 0 3 5)) fun (μ6 : Mem) => some (1, μ6)) else (if a2 = 32 then (nm (upm q2.2 (h1 + 1) 0 10 (q2.2 0 3 5)) fun (μ7 : Mem) => some (1, μ7)) else (if a2 = 33 then (nm (upm q2.2 (h1 + 1) 0 12 (q2.2 0 3 5)) fun (μ8 : Mem) => some (1, μ8)) else (nm (upm q2.2 (h1 + 1) 0 13 (q2.2 0 3 5)) fun (μ9 : Mem) => some (1, μ9)))))))))
set_option maxHeartbeats 4000000 in
set_option maxRecDepth 100000 in
theorem c_X3_readNumber (G : GG) (l : Launch) (h1 : Nat) (hh1 : h1 < 15) (μ : Mem) (a2 : Int32) (a3 : Int32) : CI G l yX3_readNumber (.code yX3_readNumber cX3_readNumber 4 (some .boolean)) 2 [.ref (gad G 0 7), .ref (gad G (h1 + 1) 0), .int a2, .int a3] μ (f_X3_readNumber h1 μ a2 a3) := by
  refine CI.of (own := "SaturdayKeep$HouseReader") (L0 := [some (.ref (gad G 0 7)), some (.ref (gad G (h1 + 1) 0)), some (.int a2), some (.int a3)]) rfl rfl rfl (Nat.le_of_ble_eq_true rfl) (fun C hl hC => ?_)
  subst hl
  delta f_X3_readNumber
  refine aw_aload_n (pc := 0) (i := 0) hC dX3_readNumber_0 rfl rfl ?_
  refine aw_get (pc := 1) hC inX3 (v0 (j := 7) (by decide)) rfl rfl 0 (by decide) kw85 rfl rfl dX3_readNumber_1 ?_
  refine aw_iload_n (pc := 4) (i := 2) hC dX3_readNumber_4 rfl rfl ?_
  refine aw_callVI (pc := 5) (As := [.int a2]) hC mb_X8_take kw709 (by decide) (c_X8_take G C.2.1   μ a2) (v0 (j := 3) (by decide)) rfl rfl rfl (Nat.le_of_ble_eq_true rfl) dX3_readNumber_5 (fun q1 => ?_)
  refine aw_if_eq (pc := 8) (tgt := 22) hC dX3_readNumber_8 (by decide) (fun _ => ?_) (fun _ => ?_)
  · skip
    refine aw_iconst (pc := 22) (v := 0) hC dX3_readNumber_22 ic0 ?_
    exact aw_zret0 hC dX3_readNumber_23
  · skip
    refine aw_aload_n (pc := 11) (i := 0) hC dX3_readNumber_11 rfl rfl ?_
    refine aw_get (pc := 12) hC inX3 (v0 (j := 7) (by decide)) rfl rfl 0 (by decide) kw85 rfl rfl dX3_readNumber_12 ?_
    refine aw_iload_n (pc := 15) (i := 3) hC dX3_readNumber_15 rfl rfl ?_
    refine aw_callVI (pc := 16) (As := [.int a3]) hC mb_X8_takeNumber kw713 (by decide) (c_X8_takeNumber G C.2.1   q1.2 a3) (v0 (j := 3) (by decide)) rfl rfl rfl (Nat.le_of_ble_eq_true rfl) dX3_readNumber_16 (fun q2 => ?_)
    refine aw_if_ne (pc := 19) (tgt := 24) hC dX3_readNumber_19 (by decide) (fun _ => ?_) (fun _ => ?_)
    · skip
      refine aw_iconst (pc := 22) (v := 0) hC dX3_readNumber_22 ic0 ?_
      exact aw_zret0 hC dX3_readNumber_23
    · skip
      refine aw_iload_n (pc := 24) (i := 2) hC dX3_readNumber_24 rfl rfl ?_
      refine aw_case (k := 28) (fun hc25 => ?_) (fun hn25_0 => ?_)
      · skip
        refine aw_tswIn (pc := 25) (kI := 28) (tgt := 64) hC dX3_readNumber_25 hc25 (by decide) (by decide) (by decide) rfl (by decide) ?_
        refine aw_aload_n (pc := 64) (i := 1) hC dX3_readNumber_64 rfl rfl ?_
        refine aw_aload_n (pc := 65) (i := 0) hC dX3_readNumber_65 rfl rfl ?_
        refine aw_get (pc := 66) hC inX3 (v0 (j := 7) (by decide)) rfl rfl 0 (by decide) kw85 rfl rfl dX3_readNumber_66 ?_
        refine aw_get (pc := 69) hC inX8 (v0 (j := 3) (by decide)) rfl rfl 5 (by decide) kw64 rfl rfl dX3_readNumber_69 ?_
        refine aw_putIN (pc := 72) hC inX2 (vH (j := 0) hh1 (by decide)) rfl rfl 8 (by decide) kw199 rfl tyX2 tyX2_ok nmX2 rfl rfl (Nat.le_of_ble_eq_true rfl) rfl dX3_readNumber_72 (fun μ3 => ?_)
        refine aw_goto (pc := 75) (tgt := 145) hC dX3_readNumber_75 (by decide) ?_
        refine aw_iconst (pc := 145) (v := 1) hC dX3_readNumber_145 ic1 ?_
        exact aw_zret1 hC dX3_readNumber_146
      refine aw_case (k := 29) (fun hc25 => ?_) (fun hn25_1 => ?_)
      · skip
        refine aw_tswIn (pc := 25) (kI := 29) (tgt := 134) hC dX3_readNumber_25 hc25 (by decide) (by decide) (by decide) rfl (by decide) ?_
        refine aw_aload_n (pc := 134) (i := 1) hC dX3_readNumber_134 rfl rfl ?_
        refine aw_aload_n (pc := 135) (i := 0) hC dX3_readNumber_135 rfl rfl ?_
        refine aw_get (pc := 136) hC inX3 (v0 (j := 7) (by decide)) rfl rfl 0 (by decide) kw85 rfl rfl dX3_readNumber_136 ?_
        refine aw_get (pc := 139) hC inX8 (v0 (j := 3) (by decide)) rfl rfl 5 (by decide) kw64 rfl rfl dX3_readNumber_139 ?_
        refine aw_putIN (pc := 142) hC inX2 (vH (j := 0) hh1 (by decide)) rfl rfl 13 (by decide) kw213 rfl tyX2 tyX2_ok nmX2 rfl rfl (Nat.le_of_ble_eq_true rfl) rfl dX3_readNumber_142 (fun μ4 => ?_)
        refine aw_iconst (pc := 145) (v := 1) hC dX3_readNumber_145 ic1 ?_
        exact aw_zret1 hC dX3_readNumber_146
      refine aw_case (k := 30) (fun hc25 => ?_) (fun hn25_2 => ?_)
      · skip
        refine aw_tswIn (pc := 25) (kI := 30) (tgt := 78) hC dX3_readNumber_25 hc25 (by decide) (by decide) (by decide) rfl (by decide) ?_
        refine aw_aload_n (pc := 78) (i := 1) hC dX3_readNumber_78 rfl rfl ?_
        refine aw_aload_n (pc := 79) (i := 0) hC dX3_readNumber_79 rfl rfl ?_
        refine aw_get (pc := 80) hC inX3 (v0 (j := 7) (by decide)) rfl rfl 0 (by decide) kw85 rfl rfl dX3_readNumber_80 ?_
        refine aw_get (pc := 83) hC inX8 (v0 (j := 3) (by decide)) rfl rfl 5 (by decide) kw64 rfl rfl dX3_readNumber_83 ?_
        refine aw_putIN (pc := 86) hC inX2 (vH (j := 0) hh1 (by decide)) rfl rfl 7 (by decide) kw196 rfl tyX2 tyX2_ok nmX2 rfl rfl (Nat.le_of_ble_eq_true rfl) rfl dX3_readNumber_86 (fun μ5 => ?_)
        refine aw_goto (pc := 89) (tgt := 145) hC dX3_readNumber_89 (by decide) ?_
        refine aw_iconst (pc := 145) (v := 1) hC dX3_readNumber_145 ic1 ?_
        exact aw_zret1 hC dX3_readNumber_146
      refine aw_case (k := 31) (fun hc25 => ?_) (fun hn25_3 => ?_)
      · skip
        refine aw_tswIn (pc := 25) (kI := 31) (tgt := 92) hC dX3_readNumber_25 hc25 (by decide) (by decide) (by decide) rfl (by decide) ?_
        refine aw_aload_n (pc := 92) (i := 1) hC dX3_readNumber_92 rfl rfl ?_
        refine aw_aload_n (pc := 93) (i := 0) hC dX3_readNumber_93 rfl rfl ?_
        refine aw_get (pc := 94) hC inX3 (v0 (j := 7) (by decide)) rfl rfl 0 (by decide) kw85 rfl rfl dX3_readNumber_94 ?_
        refine aw_get (pc := 97) hC inX8 (v0 (j := 3) (by decide)) rfl rfl 5 (by decide) kw64 rfl rfl dX3_readNumber_97 ?_
        refine aw_putIN (pc := 100) hC inX2 (vH (j := 0) hh1 (by decide)) rfl rfl 9 (by decide) kw202 rfl tyX2 tyX2_ok nmX2 rfl rfl (Nat.le_of_ble_eq_true rfl) rfl dX3_readNumber_100 (fun μ6 => ?_)
        refine aw_goto (pc := 103) (tgt := 145) hC dX3_readNumber_103 (by decide) ?_
        refine aw_iconst (pc := 145) (v := 1) hC dX3_readNumber_145 ic1 ?_
        exact aw_zret1 hC dX3_readNumber_146
      refine aw_case (k := 32) (fun hc25 => ?_) (fun hn25_4 => ?_)
      · skip
        refine aw_tswIn (pc := 25) (kI := 32) (tgt := 106) hC dX3_readNumber_25 hc25 (by decide) (by decide) (by decide) rfl (by decide) ?_
        refine aw_aload_n (pc := 106) (i := 1) hC dX3_readNumber_106 rfl rfl ?_
        refine aw_aload_n (pc := 107) (i := 0) hC dX3_readNumber_107 rfl rfl ?_
        refine aw_get (pc := 108) hC inX3 (v0 (j := 7) (by decide)) rfl rfl 0 (by decide) kw85 rfl rfl dX3_readNumber_108 ?_
        refine aw_get (pc := 111) hC inX8 (v0 (j := 3) (by decide)) rfl rfl 5 (by decide) kw64 rfl rfl dX3_readNumber_111 ?_
        refine aw_putIN (pc := 114) hC inX2 (vH (j := 0) hh1 (by decide)) rfl rfl 10 (by decide) kw205 rfl tyX2 tyX2_ok nmX2 rfl rfl (Nat.le_of_ble_eq_true rfl) rfl dX3_readNumber_114 (fun μ7 => ?_)
        refine aw_goto (pc := 117) (tgt := 145) hC dX3_readNumber_117 (by decide) ?_
        refine aw_iconst (pc := 145) (v := 1) hC dX3_readNumber_145 ic1 ?_
        exact aw_zret1 hC dX3_readNumber_146
      refine aw_case (k := 33) (fun hc25 => ?_) (fun hn25_5 => ?_)
      · skip
        refine aw_tswIn (pc := 25) (kI := 33) (tgt := 120) hC dX3_readNumber_25 hc25 (by decide) (by decide) (by decide) rfl (by decide) ?_
        refine aw_aload_n (pc := 120) (i := 1) hC dX3_readNumber_120 rfl rfl ?_
        refine aw_aload_n (pc := 121) (i := 0) hC dX3_readNumber_121 rfl rfl ?_
        refine aw_get (pc := 122) hC inX3 (v0 (j := 7) (by decide)) rfl rfl 0 (by decide) kw85 rfl rfl dX3_readNumber_122 ?_
        refine aw_get (pc := 125) hC inX8 (v0 (j := 3) (by decide)) rfl rfl 5 (by decide) kw64 rfl rfl dX3_readNumber_125 ?_
        refine aw_putIN (pc := 128) hC inX2 (vH (j := 0) hh1 (by decide)) rfl rfl 12 (by decide) kw210 rfl tyX2 tyX2_ok nmX2 rfl rfl (Nat.le_of_ble_eq_true rfl) rfl dX3_readNumber_128 (fun μ8 => ?_)
        refine aw_goto (pc := 131) (tgt := 145) hC dX3_readNumber_131 (by decide) ?_
        refine aw_iconst (pc := 145) (v := 1) hC dX3_readNumber_145 ic1 ?_
        exact aw_zret1 hC dX3_readNumber_146
      refine aw_tswOut (pc := 25) (tgt := 134) hC dX3_readNumber_25 (by have e28 := lv_neT (a := 28) hn25_0 (by decide); have e29 := lv_neT (a := 29) hn25_1 (by decide); have e30 := lv_neT (a := 30) hn25_2 (by decide); have e31 := lv_neT (a := 31) hn25_3 (by decide); have e32 := lv_neT (a := 32) hn25_4 (by decide); have e33 := lv_neT (a := 33) hn25_5 (by decide); omega) (by decide) ?_
      refine aw_aload_n (pc := 134) (i := 1) hC dX3_readNumber_134 rfl rfl ?_
      refine aw_aload_n (pc := 135) (i := 0) hC dX3_readNumber_135 rfl rfl ?_
      refine aw_get (pc := 136) hC inX3 (v0 (j := 7) (by decide)) rfl rfl 0 (by decide) kw85 rfl rfl dX3_readNumber_136 ?_
      refine aw_get (pc := 139) hC inX8 (v0 (j := 3) (by decide)) rfl rfl 5 (by decide) kw64 rfl rfl dX3_readNumber_139 ?_
      refine aw_putIN (pc := 142) hC inX2 (vH (j := 0) hh1 (by decide)) rfl rfl 13 (by decide) kw213 rfl tyX2 tyX2_ok nmX2 rfl rfl (Nat.le_of_ble_eq_true rfl) rfl dX3_readNumber_142 (fun μ9 => ?_)
      refine aw_iconst (pc := 145) (v := 1) hC dX3_readNumber_145 ic1 ?_
      exact aw_zret1 hC dX3_readNumber_146
theorem dX3_readLine_0 : decode cX3_readLine 0 = .ok (.aload_n 0, 1) := by decide +kernel
theorem dX3_readLine_1 : decode cX3_readLine 1 = .ok (.getfield 9, 3) := by decide +kernel
theorem dX3_readLine_4 : decode cX3_readLine 4 = .ok (.invokevirtual 15, 3) := by decide +kernel
theorem dX3_readLine_7 : decode cX3_readLine 7 = .ok (.istore_n 2, 1) := by decide +kernel
theorem dX3_readLine_8 : decode cX3_readLine 8 = .ok (.iload_n 2, 1) := by decide +kernel
theorem dX3_readLine_9 : decode cX3_readLine 9 = .ok (.tableswitch 188 10 34 #[115, 188, 188, 188, 188, 188, 188, 188, 188, 188, 188, 188, 188, 188, 188, 188, 188, 121, 133, 127, 142, 150, 159, 169, 178], 115) := by decide +kernel
theorem dX3_readLine_124 : decode cX3_readLine 124 = .ok (.aload_n 0, 1) := by decide +kernel
theorem dX3_readLine_125 : decode cX3_readLine 125 = .ok (.aload_n 1, 1) := by decide +kernel
theorem dX3_readLine_126 : decode cX3_readLine 126 = .ok (.invokevirtual 29, 3) := by decide +kernel
theorem dX3_readLine_129 : decode cX3_readLine 129 = .ok (.ireturn, 1) := by decide +kernel
theorem dX3_readLine_130 : decode cX3_readLine 130 = .ok (.aload_n 0, 1) := by decide +kernel
theorem dX3_readLine_131 : decode cX3_readLine 131 = .ok (.aload_n 1, 1) := by decide +kernel
theorem dX3_readLine_132 : decode cX3_readLine 132 = .ok (.invokevirtual 32, 3) := by decide +kernel
theorem dX3_readLine_135 : decode cX3_readLine 135 = .ok (.ireturn, 1) := by decide +kernel
theorem dX3_readLine_136 : decode cX3_readLine 136 = .ok (.aload_n 0, 1) := by decide +kernel
theorem dX3_readLine_137 : decode cX3_readLine 137 = .ok (.aload_n 1, 1) := by decide +kernel
theorem dX3_readLine_138 : decode cX3_readLine 138 = .ok (.invokevirtual 35, 3) := by decide +kernel
theorem dX3_readLine_141 : decode cX3_readLine 141 = .ok (.ireturn, 1) := by decide +kernel
theorem dX3_readLine_142 : decode cX3_readLine 142 = .ok (.aload_n 0, 1) := by decide +kernel
theorem dX3_readLine_143 : decode cX3_readLine 143 = .ok (.aload_n 1, 1) := by decide +kernel
theorem dX3_readLine_144 : decode cX3_readLine 144 = .ok (.iload_n 2, 1) := by decide +kernel
theorem dX3_readLine_145 : decode cX3_readLine 145 = .ok (.bipush 7, 2) := by decide +kernel
theorem dX3_readLine_147 : decode cX3_readLine 147 = .ok (.invokevirtual 38, 3) := by decide +kernel
theorem dX3_readLine_150 : decode cX3_readLine 150 = .ok (.ireturn, 1) := by decide +kernel
theorem dX3_readLine_151 : decode cX3_readLine 151 = .ok (.aload_n 0, 1) := by decide +kernel
theorem dX3_readLine_152 : decode cX3_readLine 152 = .ok (.aload_n 1, 1) := by decide +kernel
theorem dX3_readLine_153 : decode cX3_readLine 153 = .ok (.iload_n 2, 1) := by decide +kernel
theorem dX3_readLine_154 : decode cX3_readLine 154 = .ok (.iconst 1, 1) := by decide +kernel
theorem dX3_readLine_155 : decode cX3_readLine 155 = .ok (.invokevirtual 38, 3) := by decide +kernel
theorem dX3_readLine_158 : decode cX3_readLine 158 = .ok (.ireturn, 1) := by decide +kernel
theorem dX3_readLine_159 : decode cX3_readLine 159 = .ok (.aload_n 0, 1) := by decide +kernel
theorem dX3_readLine_160 : decode cX3_readLine 160 = .ok (.aload_n 1, 1) := by decide +kernel
theorem dX3_readLine_161 : decode cX3_readLine 161 = .ok (.iload_n 2, 1) := by decide +kernel
theorem dX3_readLine_162 : decode cX3_readLine 162 = .ok (.bipush 9, 2) := by decide +kernel
theorem dX3_readLine_164 : decode cX3_readLine 164 = .ok (.invokevirtual 38, 3) := by decide +kernel
theorem dX3_readLine_167 : decode cX3_readLine 167 = .ok (.ireturn, 1) := by decide +kernel
theorem dX3_readLine_168 : decode cX3_readLine 168 = .ok (.aload_n 0, 1) := by decide +kernel
theorem dX3_readLine_169 : decode cX3_readLine 169 = .ok (.aload_n 1, 1) := by decide +kernel
theorem dX3_readLine_170 : decode cX3_readLine 170 = .ok (.iload_n 2, 1) := by decide +kernel
theorem dX3_readLine_171 : decode cX3_readLine 171 = .ok (.sipush 999, 3) := by decide +kernel
theorem dX3_readLine_174 : decode cX3_readLine 174 = .ok (.invokevirtual 38, 3) := by decide +kernel
theorem dX3_readLine_177 : decode cX3_readLine 177 = .ok (.ireturn, 1) := by decide +kernel
theorem dX3_readLine_178 : decode cX3_readLine 178 = .ok (.aload_n 0, 1) := by decide +kernel
theorem dX3_readLine_179 : decode cX3_readLine 179 = .ok (.aload_n 1, 1) := by decide +kernel
theorem dX3_readLine_180 : decode cX3_readLine 180 = .ok (.iload_n 2, 1) := by decide +kernel
theorem dX3_readLine_181 : decode cX3_readLine 181 = .ok (.bipush 100, 2) := by decide +kernel
theorem dX3_readLine_183 : decode cX3_readLine 183 = .ok (.invokevirtual 38, 3) := by decide +kernel
theorem dX3_readLine_186 : decode cX3_readLine 186 = .ok (.ireturn, 1) := by decide +kernel
theorem dX3_readLine_187 : decode cX3_readLine 187 = .ok (.aload_n 0, 1) := by decide +kernel
theorem dX3_readLine_188 : decode cX3_readLine 188 = .ok (.aload_n 1, 1) := by decide +kernel
theorem dX3_readLine_189 : decode cX3_readLine 189 = .ok (.iload_n 2, 1) := by decide +kernel
theorem dX3_readLine_190 : decode cX3_readLine 190 = .ok (.sipush 999, 3) := by decide +kernel
theorem dX3_readLine_193 : decode cX3_readLine 193 = .ok (.invokevirtual 38, 3) := by decide +kernel
theorem dX3_readLine_196 : decode cX3_readLine 196 = .ok (.ireturn, 1) := by decide +kernel
theorem dX3_readLine_197 : decode cX3_readLine 197 = .ok (.iconst 0, 1) := by decide +kernel
theorem dX3_readLine_198 : decode cX3_readLine 198 = .ok (.ireturn, 1) := by decide +kernel
def f_X3_readLine (h1 : Nat) (μ : Mem) : Option (Int32 × Mem) := (f_X8_kind μ).bind fun (q1 : Int32) => if q1 = 10 then ((f_X3_readGuest h1 μ).bind fun (q2 : Int32 × Mem) => bk q2.1 (some (q2.1, q2.2))) else (if q1 = 11 then (some (0, μ)) else (if q1 = 12 then (some (0, μ)) else (if q1 = 13 then (some (0, μ)) else (if q1 = 14 then (some (0, μ)) else (if q1 = 15 then (some (0, μ)) else (if q1 = 16 then (some (0, μ)) else (if q1 = 17 then (some (0, μ)) else (if q1 = 18 then (some (0, μ)) else (if q1 = 19 then (some (0, μ)) else (if q1 = 20 then (some (0, μ)) else (if q1 = 21 then (some (0, μ)) else (if q1 = 22 then (some (0, μ)) else (if q1 = 23 then (some (0, μ)) else (if q1 = 24 then (some (0, μ)) else (if q1 = 25 then (some (0, μ)) else (if q1 = 26 then (some (0, μ)) else (if q1 = 27 then ((f_X3_readHole h1 μ).bind fun (q3 : Int32 × Mem) => bk q3.1 (some (q3.1, q3.2))) else (if q1 = 28 then ((f_X3_readNumber h1 μ q1 7).bind fun (q4 : Int32 × Mem) => bk q4.1 (some (q4.1, q4.2))) else (if q1 = 29 then ((f_X3_readShift h1 μ).bind fun (q5 : Int32 × Mem) => bk q5.1 (some (q5.1, q5.2))) else (if q1 = 30 then ((f_X3_readNumber h1 μ q1 1).bind fun (q6 : Int32 × Mem) => bk q6.1 (some (q6.1, q6.2))) else (if q1 = 31 then ((f_X3_readNumber h1 μ q1 9).bind fun (q7 : Int32 × Mem) => bk q7.1 (some (q7.1, q7.2))) else (if q1 = 32 then ((f_X3_readNumber h1 μ q1 999).bind fun (q8 : Int32 × Mem) => bk q8.1 (some (q8.1, q8.2))) else (if q1 = 33 then ((f_X3_readNumber h1 μ q1 100).bind fun (q9 : Int32 × Mem) => bk q9.1 (some (q9.1, q9.2))) else (if q1 = 34 then ((f_X3_readNumber h1 μ q1 999).bind fun (q10 : Int32 × Mem) => bk q10.1 (some (q10.1, q10.2))) else (some (0, μ))))))))))))))))))))))))))
set_option maxHeartbeats 4000000 in
set_option maxRecDepth 100000 in
theorem c_X3_readLine (G : GG) (l : Launch) (h1 : Nat) (hh1 : h1 < 15) (μ : Mem) : CI G l yX3_readLine (.code yX3_readLine cX3_readLine 3 (some .boolean)) 4 [.ref (gad G 0 7), .ref (gad G (h1 + 1) 0)] μ (f_X3_readLine h1 μ) := by
  refine CI.of (own := "SaturdayKeep$HouseReader") (L0 := [some (.ref (gad G 0 7)), some (.ref (gad G (h1 + 1) 0)), none]) rfl rfl rfl (Nat.le_of_ble_eq_true rfl) (fun C hl hC => ?_)
  subst hl
  delta f_X3_readLine
  refine aw_aload_n (pc := 0) (i := 0) hC dX3_readLine_0 rfl rfl ?_
  refine aw_get (pc := 1) hC inX3 (v0 (j := 7) (by decide)) rfl rfl 0 (by decide) kw85 rfl rfl dX3_readLine_1 ?_
  refine aw_callVR (pc := 4) (As := []) hC mb_X8_kind kw697 (by decide) (c_X8_kind G C.2.1   μ ) (v0 (j := 3) (by decide)) rfl rfl rfl (Nat.le_of_ble_eq_true rfl) dX3_readLine_4 (fun q1 => ?_)
  refine aw_istore_n (pc := 7) (i := 2) hC dX3_readLine_7 rfl rfl (by decide) ?_
  refine aw_iload_n (pc := 8) (i := 2) hC dX3_readLine_8 rfl rfl ?_
  refine aw_case (k := 10) (fun hc9 => ?_) (fun hn9_0 => ?_)
  · skip
    refine aw_tswIn (pc := 9) (kI := 10) (tgt := 124) hC dX3_readLine_9 hc9 (by decide) (by decide) (by decide) rfl (by decide) ?_
    refine aw_aload_n (pc := 124) (i := 0) hC dX3_readLine_124 rfl rfl ?_
    refine aw_aload_n (pc := 125) (i := 1) hC dX3_readLine_125 rfl rfl ?_
    refine aw_callVI (pc := 126) (As := [.ref (gad G (h1 + 1) 0)]) hC mb_X3_readGuest kw705 (by decide) (c_X3_readGuest G C.2.1 h1 (Nat.lt_of_lt_of_le hh1 (by decide)) μ ) (v0 (j := 7) (by decide)) rfl rfl rfl (Nat.le_of_ble_eq_true rfl) dX3_readLine_126 (fun q2 => ?_)
    exact aw_zret hC dX3_readLine_129
  refine aw_case (k := 11) (fun hc9 => ?_) (fun hn9_1 => ?_)
  · skip
    refine aw_tswIn (pc := 9) (kI := 11) (tgt := 197) hC dX3_readLine_9 hc9 (by decide) (by decide) (by decide) rfl (by decide) ?_
    refine aw_iconst (pc := 197) (v := 0) hC dX3_readLine_197 ic0 ?_
    exact aw_zret0 hC dX3_readLine_198
  refine aw_case (k := 12) (fun hc9 => ?_) (fun hn9_2 => ?_)
  · skip
    refine aw_tswIn (pc := 9) (kI := 12) (tgt := 197) hC dX3_readLine_9 hc9 (by decide) (by decide) (by decide) rfl (by decide) ?_
    refine aw_iconst (pc := 197) (v := 0) hC dX3_readLine_197 ic0 ?_
    exact aw_zret0 hC dX3_readLine_198
  refine aw_case (k := 13) (fun hc9 => ?_) (fun hn9_3 => ?_)
  · skip
    refine aw_tswIn (pc := 9) (kI := 13) (tgt := 197) hC dX3_readLine_9 hc9 (by decide) (by decide) (by decide) rfl (by decide) ?_
    refine aw_iconst (pc := 197) (v := 0) hC dX3_readLine_197 ic0 ?_
    exact aw_zret0 hC dX3_readLine_198
  refine aw_case (k := 14) (fun hc9 => ?_) (fun hn9_4 => ?_)
  · skip
    refine aw_tswIn (pc := 9) (kI := 14) (tgt := 197) hC dX3_readLine_9 hc9 (by decide) (by decide) (by decide) rfl (by decide) ?_
    refine aw_iconst (pc := 197) (v := 0) hC dX3_readLine_197 ic0 ?_
    exact aw_zret0 hC dX3_readLine_198
  refine aw_case (k := 15) (fun hc9 => ?_) (fun hn9_5 => ?_)
  · skip
    refine aw_tswIn (pc := 9) (kI := 15) (tgt := 197) hC dX3_readLine_9 hc9 (by decide) (by decide) (by decide) rfl (by decide) ?_
    refine aw_iconst (pc := 197) (v := 0) hC dX3_readLine_197 ic0 ?_
    exact aw_zret0 hC dX3_readLine_198
  refine aw_case (k := 16) (fun hc9 => ?_) (fun hn9_6 => ?_)
  · skip
    refine aw_tswIn (pc := 9) (kI := 16) (tgt := 197) hC dX3_readLine_9 hc9 (by decide) (by decide) (by decide) rfl (by decide) ?_
    refine aw_iconst (pc := 197) (v := 0) hC dX3_readLine_197 ic0 ?_
    exact aw_zret0 hC dX3_readLine_198
  refine aw_case (k := 17) (fun hc9 => ?_) (fun hn9_7 => ?_)
  · skip
    refine aw_tswIn (pc := 9) (kI := 17) (tgt := 197) hC dX3_readLine_9 hc9 (by decide) (by decide) (by decide) rfl (by decide) ?_
    refine aw_iconst (pc := 197) (v := 0) hC dX3_readLine_197 ic0 ?_
    exact aw_zret0 hC dX3_readLine_198
  refine aw_case (k := 18) (fun hc9 => ?_) (fun hn9_8 => ?_)
  · skip
    refine aw_tswIn (pc := 9) (kI := 18) (tgt := 197) hC dX3_readLine_9 hc9 (by decide) (by decide) (by decide) rfl (by decide) ?_
    refine aw_iconst (pc := 197) (v := 0) hC dX3_readLine_197 ic0 ?_
    exact aw_zret0 hC dX3_readLine_198
  refine aw_case (k := 19) (fun hc9 => ?_) (fun hn9_9 => ?_)
  · skip
    refine aw_tswIn (pc := 9) (kI := 19) (tgt := 197) hC dX3_readLine_9 hc9 (by decide) (by decide) (by decide) rfl (by decide) ?_
    refine aw_iconst (pc := 197) (v := 0) hC dX3_readLine_197 ic0 ?_
    exact aw_zret0 hC dX3_readLine_198
  refine aw_case (k := 20) (fun hc9 => ?_) (fun hn9_10 => ?_)
  · skip
    refine aw_tswIn (pc := 9) (kI := 20) (tgt := 197) hC dX3_readLine_9 hc9 (by decide) (by decide) (by decide) rfl (by decide) ?_
    refine aw_iconst (pc := 197) (v := 0) hC dX3_readLine_197 ic0 ?_
    exact aw_zret0 hC dX3_readLine_198
  refine aw_case (k := 21) (fun hc9 => ?_) (fun hn9_11 => ?_)
  · skip
    refine aw_tswIn (pc := 9) (kI := 21) (tgt := 197) hC dX3_readLine_9 hc9 (by decide) (by decide) (by decide) rfl (by decide) ?_
    refine aw_iconst (pc := 197) (v := 0) hC dX3_readLine_197 ic0 ?_
    exact aw_zret0 hC dX3_readLine_198
  refine aw_case (k := 22) (fun hc9 => ?_) (fun hn9_12 => ?_)
  · skip
    refine aw_tswIn (pc := 9) (kI := 22) (tgt := 197) hC dX3_readLine_9 hc9 (by decide) (by decide) (by decide) rfl (by decide) ?_
    refine aw_iconst (pc := 197) (v := 0) hC dX3_readLine_197 ic0 ?_
    exact aw_zret0 hC dX3_readLine_198
  refine aw_case (k := 23) (fun hc9 => ?_) (fun hn9_13 => ?_)
  · skip
    refine aw_tswIn (pc := 9) (kI := 23) (tgt := 197) hC dX3_readLine_9 hc9 (by decide) (by decide) (by decide) rfl (by decide) ?_
    refine aw_iconst (pc := 197) (v := 0) hC dX3_readLine_197 ic0 ?_
    exact aw_zret0 hC dX3_readLine_198
  refine aw_case (k := 24) (fun hc9 => ?_) (fun hn9_14 => ?_)
  · skip
    refine aw_tswIn (pc := 9) (kI := 24) (tgt := 197) hC dX3_readLine_9 hc9 (by decide) (by decide) (by decide) rfl (by decide) ?_
    refine aw_iconst (pc := 197) (v := 0) hC dX3_readLine_197 ic0 ?_
    exact aw_zret0 hC dX3_readLine_198
  refine aw_case (k := 25) (fun hc9 => ?_) (fun hn9_15 => ?_)
  · skip
    refine aw_tswIn (pc := 9) (kI := 25) (tgt := 197) hC dX3_readLine_9 hc9 (by decide) (by decide) (by decide) rfl (by decide) ?_
    refine aw_iconst (pc := 197) (v := 0) hC dX3_readLine_197 ic0 ?_
    exact aw_zret0 hC dX3_readLine_198
  refine aw_case (k := 26) (fun hc9 => ?_) (fun hn9_16 => ?_)
  · skip
    refine aw_tswIn (pc := 9) (kI := 26) (tgt := 197) hC dX3_readLine_9 hc9 (by decide) (by decide) (by decide) rfl (by decide) ?_
    refine aw_iconst (pc := 197) (v := 0) hC dX3_readLine_197 ic0 ?_
    exact aw_zret0 hC dX3_readLine_198
  refine aw_case (k := 27) (fun hc9 => ?_) (fun hn9_17 => ?_)
  · skip
    refine aw_tswIn (pc := 9) (kI := 27) (tgt := 130) hC dX3_readLine_9 hc9 (by decide) (by decide) (by decide) rfl (by decide) ?_
    refine aw_aload_n (pc := 130) (i := 0) hC dX3_readLine_130 rfl rfl ?_
    refine aw_aload_n (pc := 131) (i := 1) hC dX3_readLine_131 rfl rfl ?_
    refine aw_callVI (pc := 132) (As := [.ref (gad G (h1 + 1) 0)]) hC mb_X3_readHole kw721 (by decide) (c_X3_readHole G C.2.1 h1 (Nat.lt_of_lt_of_le hh1 (by decide)) μ ) (v0 (j := 7) (by decide)) rfl rfl rfl (Nat.le_of_ble_eq_true rfl) dX3_readLine_132 (fun q3 => ?_)
    exact aw_zret hC dX3_readLine_135
  refine aw_case (k := 28) (fun hc9 => ?_) (fun hn9_18 => ?_)
  · skip
    refine aw_tswIn (pc := 9) (kI := 28) (tgt := 142) hC dX3_readLine_9 hc9 (by decide) (by decide) (by decide) rfl (by decide) ?_
    refine aw_aload_n (pc := 142) (i := 0) hC dX3_readLine_142 rfl rfl ?_
    refine aw_aload_n (pc := 143) (i := 1) hC dX3_readLine_143 rfl rfl ?_
    refine aw_iload_n (pc := 144) (i := 2) hC dX3_readLine_144 rfl rfl ?_
    refine aw_bipush (pc := 145) (v := 7) hC dX3_readLine_145 bc7 ?_
    refine aw_callVI (pc := 147) (As := [.ref (gad G (h1 + 1) 0), .int q1, .int 7]) hC mb_X3_readNumber kw737 (by decide) (c_X3_readNumber G C.2.1 h1 (Nat.lt_of_lt_of_le hh1 (by decide)) μ q1 7) (v0 (j := 7) (by decide)) rfl rfl rfl (Nat.le_of_ble_eq_true rfl) dX3_readLine_147 (fun q4 => ?_)
    exact aw_zret hC dX3_readLine_150
  refine aw_case (k := 29) (fun hc9 => ?_) (fun hn9_19 => ?_)
  · skip
    refine aw_tswIn (pc := 9) (kI := 29) (tgt := 136) hC dX3_readLine_9 hc9 (by decide) (by decide) (by decide) rfl (by decide) ?_
    refine aw_aload_n (pc := 136) (i := 0) hC dX3_readLine_136 rfl rfl ?_
    refine aw_aload_n (pc := 137) (i := 1) hC dX3_readLine_137 rfl rfl ?_
    refine aw_callVI (pc := 138) (As := [.ref (gad G (h1 + 1) 0)]) hC mb_X3_readShift kw729 (by decide) (c_X3_readShift G C.2.1 h1 (Nat.lt_of_lt_of_le hh1 (by decide)) μ ) (v0 (j := 7) (by decide)) rfl rfl rfl (Nat.le_of_ble_eq_true rfl) dX3_readLine_138 (fun q5 => ?_)
    exact aw_zret hC dX3_readLine_141
  refine aw_case (k := 30) (fun hc9 => ?_) (fun hn9_20 => ?_)
  · skip
    refine aw_tswIn (pc := 9) (kI := 30) (tgt := 151) hC dX3_readLine_9 hc9 (by decide) (by decide) (by decide) rfl (by decide) ?_
    refine aw_aload_n (pc := 151) (i := 0) hC dX3_readLine_151 rfl rfl ?_
    refine aw_aload_n (pc := 152) (i := 1) hC dX3_readLine_152 rfl rfl ?_
    refine aw_iload_n (pc := 153) (i := 2) hC dX3_readLine_153 rfl rfl ?_
    refine aw_iconst (pc := 154) (v := 1) hC dX3_readLine_154 ic1 ?_
    refine aw_callVI (pc := 155) (As := [.ref (gad G (h1 + 1) 0), .int q1, .int 1]) hC mb_X3_readNumber kw737 (by decide) (c_X3_readNumber G C.2.1 h1 (Nat.lt_of_lt_of_le hh1 (by decide)) μ q1 1) (v0 (j := 7) (by decide)) rfl rfl rfl (Nat.le_of_ble_eq_true rfl) dX3_readLine_155 (fun q6 => ?_)
    exact aw_zret hC dX3_readLine_158
  refine aw_case (k := 31) (fun hc9 => ?_) (fun hn9_21 => ?_)
  · skip
    refine aw_tswIn (pc := 9) (kI := 31) (tgt := 159) hC dX3_readLine_9 hc9 (by decide) (by decide) (by decide) rfl (by decide) ?_
    refine aw_aload_n (pc := 159) (i := 0) hC dX3_readLine_159 rfl rfl ?_
    refine aw_aload_n (pc := 160) (i := 1) hC dX3_readLine_160 rfl rfl ?_
    refine aw_iload_n (pc := 161) (i := 2) hC dX3_readLine_161 rfl rfl ?_
    refine aw_bipush (pc := 162) (v := 9) hC dX3_readLine_162 bc9 ?_
    refine aw_callVI (pc := 164) (As := [.ref (gad G (h1 + 1) 0), .int q1, .int 9]) hC mb_X3_readNumber kw737 (by decide) (c_X3_readNumber G C.2.1 h1 (Nat.lt_of_lt_of_le hh1 (by decide)) μ q1 9) (v0 (j := 7) (by decide)) rfl rfl rfl (Nat.le_of_ble_eq_true rfl) dX3_readLine_164 (fun q7 => ?_)
    exact aw_zret hC dX3_readLine_167
  refine aw_case (k := 32) (fun hc9 => ?_) (fun hn9_22 => ?_)
  · skip
    refine aw_tswIn (pc := 9) (kI := 32) (tgt := 168) hC dX3_readLine_9 hc9 (by decide) (by decide) (by decide) rfl (by decide) ?_
    refine aw_aload_n (pc := 168) (i := 0) hC dX3_readLine_168 rfl rfl ?_
    refine aw_aload_n (pc := 169) (i := 1) hC dX3_readLine_169 rfl rfl ?_
    refine aw_iload_n (pc := 170) (i := 2) hC dX3_readLine_170 rfl rfl ?_
    refine aw_sipush (pc := 171) (v := 999) hC dX3_readLine_171 sc999 ?_
    refine aw_callVI (pc := 174) (As := [.ref (gad G (h1 + 1) 0), .int q1, .int 999]) hC mb_X3_readNumber kw737 (by decide) (c_X3_readNumber G C.2.1 h1 (Nat.lt_of_lt_of_le hh1 (by decide)) μ q1 999) (v0 (j := 7) (by decide)) rfl rfl rfl (Nat.le_of_ble_eq_true rfl) dX3_readLine_174 (fun q8 => ?_)
    exact aw_zret hC dX3_readLine_177
  refine aw_case (k := 33) (fun hc9 => ?_) (fun hn9_23 => ?_)
  · skip
    refine aw_tswIn (pc := 9) (kI := 33) (tgt := 178) hC dX3_readLine_9 hc9 (by decide) (by decide) (by decide) rfl (by decide) ?_
    refine aw_aload_n (pc := 178) (i := 0) hC dX3_readLine_178 rfl rfl ?_
    refine aw_aload_n (pc := 179) (i := 1) hC dX3_readLine_179 rfl rfl ?_
    refine aw_iload_n (pc := 180) (i := 2) hC dX3_readLine_180 rfl rfl ?_
    refine aw_bipush (pc := 181) (v := 100) hC dX3_readLine_181 bc100 ?_
    refine aw_callVI (pc := 183) (As := [.ref (gad G (h1 + 1) 0), .int q1, .int 100]) hC mb_X3_readNumber kw737 (by decide) (c_X3_readNumber G C.2.1 h1 (Nat.lt_of_lt_of_le hh1 (by decide)) μ q1 100) (v0 (j := 7) (by decide)) rfl rfl rfl (Nat.le_of_ble_eq_true rfl) dX3_readLine_183 (fun q9 => ?_)
    exact aw_zret hC dX3_readLine_186
  refine aw_case (k := 34) (fun hc9 => ?_) (fun hn9_24 => ?_)
  · skip
    refine aw_tswIn (pc := 9) (kI := 34) (tgt := 187) hC dX3_readLine_9 hc9 (by decide) (by decide) (by decide) rfl (by decide) ?_
    refine aw_aload_n (pc := 187) (i := 0) hC dX3_readLine_187 rfl rfl ?_
    refine aw_aload_n (pc := 188) (i := 1) hC dX3_readLine_188 rfl rfl ?_
    refine aw_iload_n (pc := 189) (i := 2) hC dX3_readLine_189 rfl rfl ?_
    refine aw_sipush (pc := 190) (v := 999) hC dX3_readLine_190 sc999 ?_
    refine aw_callVI (pc := 193) (As := [.ref (gad G (h1 + 1) 0), .int q1, .int 999]) hC mb_X3_readNumber kw737 (by decide) (c_X3_readNumber G C.2.1 h1 (Nat.lt_of_lt_of_le hh1 (by decide)) μ q1 999) (v0 (j := 7) (by decide)) rfl rfl rfl (Nat.le_of_ble_eq_true rfl) dX3_readLine_193 (fun q10 => ?_)
    exact aw_zret hC dX3_readLine_196
  refine aw_tswOut (pc := 9) (tgt := 197) hC dX3_readLine_9 (by have e10 := lv_neT (a := 10) hn9_0 (by decide); have e11 := lv_neT (a := 11) hn9_1 (by decide); have e12 := lv_neT (a := 12) hn9_2 (by decide); have e13 := lv_neT (a := 13) hn9_3 (by decide); have e14 := lv_neT (a := 14) hn9_4 (by decide); have e15 := lv_neT (a := 15) hn9_5 (by decide); have e16 := lv_neT (a := 16) hn9_6 (by decide); have e17 := lv_neT (a := 17) hn9_7 (by decide); have e18 := lv_neT (a := 18) hn9_8 (by decide); have e19 := lv_neT (a := 19) hn9_9 (by decide); have e20 := lv_neT (a := 20) hn9_10 (by decide); have e21 := lv_neT (a := 21) hn9_11 (by decide); have e22 := lv_neT (a := 22) hn9_12 (by decide); have e23 := lv_neT (a := 23) hn9_13 (by decide); have e24 := lv_neT (a := 24) hn9_14 (by decide); have e25 := lv_neT (a := 25) hn9_15 (by decide); have e26 := lv_neT (a := 26) hn9_16 (by decide); have e27 := lv_neT (a := 27) hn9_17 (by decide); have e28 := lv_neT (a := 28) hn9_18 (by decide); have e29 := lv_neT (a := 29) hn9_19 (by decide); have e30 := lv_neT (a := 30) hn9_20 (by decide); have e31 := lv_neT (a := 31) hn9_21 (by decide); have e32 := lv_neT (a := 32) hn9_22 (by decide); have e33 := lv_neT (a := 33) hn9_23 (by decide); have e34 := lv_neT (a := 34) hn9_24 (by decide); omega) (by decide) ?_
  refine aw_iconst (pc := 197) (v := 0) hC dX3_readLine_197 ic0 ?_
  exact aw_zret0 hC dX3_readLine_198
theorem dX3_read_0 : decode cX3_read 0 = .ok (.aload_n 0, 1) := by decide +kernel
theorem dX3_read_1 : decode cX3_read 1 = .ok (.getfield 9, 3) := by decide +kernel
theorem dX3_read_4 : decode cX3_read 4 = .ok (.invokevirtual 15, 3) := by decide +kernel
theorem dX3_read_7 : decode cX3_read 7 = .ok (.ifCond .ne 5, 3) := by decide +kernel
theorem dX3_read_10 : decode cX3_read 10 = .ok (.iconst 1, 1) := by decide +kernel
theorem dX3_read_11 : decode cX3_read 11 = .ok (.ireturn, 1) := by decide +kernel
theorem dX3_read_12 : decode cX3_read 12 = .ok (.iconst 0, 1) := by decide +kernel
theorem dX3_read_13 : decode cX3_read 13 = .ok (.istore_n 2, 1) := by decide +kernel
theorem dX3_read_14 : decode cX3_read 14 = .ok (.iload_n 2, 1) := by decide +kernel
theorem dX3_read_15 : decode cX3_read 15 = .ok (.bipush 14, 2) := by decide +kernel
theorem dX3_read_17 : decode cX3_read 17 = .ok (.if_icmp .ge 11, 3) := by decide +kernel
theorem dX3_read_20 : decode cX3_read 20 = .ok (.aload_n 0, 1) := by decide +kernel
theorem dX3_read_21 : decode cX3_read 21 = .ok (.aload_n 1, 1) := by decide +kernel
theorem dX3_read_22 : decode cX3_read 22 = .ok (.invokevirtual 21, 3) := by decide +kernel
theorem dX3_read_25 : decode cX3_read 25 = .ok (.ifCond .ne 5, 3) := by decide +kernel
theorem dX3_read_28 : decode cX3_read 28 = .ok (.iconst 0, 1) := by decide +kernel
theorem dX3_read_29 : decode cX3_read 29 = .ok (.ireturn, 1) := by decide +kernel
theorem dX3_read_30 : decode cX3_read 30 = .ok (.iinc 2 1, 3) := by decide +kernel
theorem dX3_read_33 : decode cX3_read 33 = .ok (.aload_n 0, 1) := by decide +kernel
theorem dX3_read_34 : decode cX3_read 34 = .ok (.getfield 9, 3) := by decide +kernel
theorem dX3_read_37 : decode cX3_read 37 = .ok (.iconst 3, 1) := by decide +kernel
theorem dX3_read_38 : decode cX3_read 38 = .ok (.invokevirtual 25, 3) := by decide +kernel
theorem dX3_read_41 : decode cX3_read 41 = .ok (.ifCond .ne (-27), 3) := by decide +kernel
theorem dX3_read_44 : decode cX3_read 44 = .ok (.aload_n 0, 1) := by decide +kernel
theorem dX3_read_45 : decode cX3_read 45 = .ok (.getfield 9, 3) := by decide +kernel
theorem dX3_read_48 : decode cX3_read 48 = .ok (.invokevirtual 15, 3) := by decide +kernel
theorem dX3_read_51 : decode cX3_read 51 = .ok (.ifCond .ne 7, 3) := by decide +kernel
theorem dX3_read_54 : decode cX3_read 54 = .ok (.iconst 1, 1) := by decide +kernel
theorem dX3_read_55 : decode cX3_read 55 = .ok (.goto 4, 3) := by decide +kernel
theorem dX3_read_58 : decode cX3_read 58 = .ok (.iconst 0, 1) := by decide +kernel
theorem dX3_read_59 : decode cX3_read 59 = .ok (.ireturn, 1) := by decide +kernel
def lp_X3_read_14 (h1 : Nat) (k44 : Mem → Option (Int32 × Mem)) : Nat → Int32 → Mem → Option (Int32 × Mem)
  | 0, _, _ => none
  | n + 1, x3, μ4 => if 14 ≤ x3 then (some (0, μ4)) else ((f_X3_readLine h1 μ4).bind fun (q5 : Int32 × Mem) => if q5.1 = 0 then (some (0, q5.2)) else ((f_X8_take q5.2 3).bind fun (q6 : Int32 × Mem) => if q6.1 = 0 then (k44 q6.2) else (lp_X3_read_14 h1 k44 n (x3 + 1) q6.2)))
def f_X3_read (h1 : Nat) (μ : Mem) : Option (Int32 × Mem) := (f_X8_kind μ).bind fun (q1 : Int32) => if q1 = 0 then (some (1, μ)) else (lp_X3_read_14 h1 (fun (μ2 : Mem) => (f_X8_kind μ2).bind fun (q7 : Int32) => if q7 = 0 then (some (1, μ2)) else (some (0, μ2))) 4096 0 μ)
set_option maxHeartbeats 4000000 in
set_option maxRecDepth 100000 in
theorem c_X3_read (G : GG) (l : Launch) (h1 : Nat) (hh1 : h1 < 15) (μ : Mem) : CI G l yX3_read (.code yX3_read cX3_read 3 (some .boolean)) 5 [.ref (gad G 0 7), .ref (gad G (h1 + 1) 0)] μ (f_X3_read h1 μ) := by
  refine CI.of (own := "SaturdayKeep$HouseReader") (L0 := [some (.ref (gad G 0 7)), some (.ref (gad G (h1 + 1) 0)), none]) rfl rfl rfl (Nat.le_of_ble_eq_true rfl) (fun C hl hC => ?_)
  subst hl
  delta f_X3_read
  refine aw_aload_n (pc := 0) (i := 0) hC dX3_read_0 rfl rfl ?_
  refine aw_get (pc := 1) hC inX3 (v0 (j := 7) (by decide)) rfl rfl 0 (by decide) kw85 rfl rfl dX3_read_1 ?_
  refine aw_callVR (pc := 4) (As := []) hC mb_X8_kind kw697 (by decide) (c_X8_kind G C.2.1   μ ) (v0 (j := 3) (by decide)) rfl rfl rfl (Nat.le_of_ble_eq_true rfl) dX3_read_4 (fun q1 => ?_)
  refine aw_if_ne (pc := 7) (tgt := 12) hC dX3_read_7 (by decide) (fun _ => ?_) (fun _ => ?_)
  · skip
    refine aw_iconst (pc := 10) (v := 1) hC dX3_read_10 ic1 ?_
    exact aw_zret1 hC dX3_read_11
  · skip
    refine aw_iconst (pc := 12) (v := 0) hC dX3_read_12 ic0 ?_
    refine aw_istore_n (pc := 13) (i := 2) hC dX3_read_13 rfl rfl (by decide) ?_
    have hL14 : ∀ (k44 : Mem → Option (Int32 × Mem)) (hk44 : ∀ (μ2 : Mem), AW G C (qI G C 0 0) 0 0 3 μ2 44 [some (.ref (gad G 0 7)), none, none] [] (k44 μ2)) (n : Nat) (x3 : Int32) (μ4 : Mem), AW G C (qI G C 0 0) 0 0 3 μ4 14 [some (.ref (gad G 0 7)), some (.ref (gad G (h1 + 1) 0)), some (.int x3)] [] (lp_X3_read_14 h1 k44 n x3 μ4) := by
      intro k44 hk44 n
      induction n with
      | zero => intro x3 μ4; exact aw_none
      | succ n ih =>
        intro x3 μ4
        rw [lp_X3_read_14]
        refine aw_iload_n (pc := 14) (i := 2) hC dX3_read_14 rfl rfl ?_
        refine aw_bipush (pc := 15) (v := 14) hC dX3_read_15 bc14 ?_
        refine aw_icmp_ge (pc := 17) (tgt := 28) hC dX3_read_17 (by decide) (fun _ => ?_) (fun _ => ?_)
        · skip
          refine aw_iconst (pc := 28) (v := 0) hC dX3_read_28 ic0 ?_
          exact aw_zret0 hC dX3_read_29
        · skip
          refine aw_aload_n (pc := 20) (i := 0) hC dX3_read_20 rfl rfl ?_
          refine aw_aload_n (pc := 21) (i := 1) hC dX3_read_21 rfl rfl ?_
          refine aw_callVI (pc := 22) (As := [.ref (gad G (h1 + 1) 0)]) hC mb_X3_readLine kw701 (by decide) (c_X3_readLine G C.2.1 h1 (Nat.lt_of_lt_of_le hh1 (by decide)) μ4 ) (v0 (j := 7) (by decide)) rfl rfl rfl (Nat.le_of_ble_eq_true rfl) dX3_read_22 (fun q5 => ?_)
          refine aw_if_ne (pc := 25) (tgt := 30) hC dX3_read_25 (by decide) (fun _ => ?_) (fun _ => ?_)
          · skip
            refine aw_iconst (pc := 28) (v := 0) hC dX3_read_28 ic0 ?_
            exact aw_zret0 hC dX3_read_29
          · skip
            refine aw_iinc (pc := 30) (v := x3 + 1) hC dX3_read_30 rfl (congrArg (HAdd.hAdd _) ic1) rfl (by decide) ?_
            refine aw_aload_n (pc := 33) (i := 0) hC dX3_read_33 rfl rfl ?_
            refine aw_get (pc := 34) hC inX3 (v0 (j := 7) (by decide)) rfl rfl 0 (by decide) kw85 rfl rfl dX3_read_34 ?_
            refine aw_iconst (pc := 37) (v := 3) hC dX3_read_37 ic3 ?_
            refine aw_callVI (pc := 38) (As := [.int 3]) hC mb_X8_take kw709 (by decide) (c_X8_take G C.2.1   q5.2 3) (v0 (j := 3) (by decide)) rfl rfl rfl (Nat.le_of_ble_eq_true rfl) dX3_read_38 (fun q6 => ?_)
            refine aw_if_ne (pc := 41) (tgt := 14) hC dX3_read_41 (by decide) (fun _ => ?_) (fun _ => ?_)
            · skip
              exact aw_drop [1, 2] (hk44 q6.2)
            · skip
              exact ih (x3 + 1) q6.2
    refine hL14 (fun (μ2 : Mem) => (f_X8_kind μ2).bind fun (q7 : Int32) => if q7 = 0 then (some (1, μ2)) else (some (0, μ2))) (fun μ2 => ?_) 4096 0 μ
    · skip
      refine aw_aload_n (pc := 44) (i := 0) hC dX3_read_44 rfl rfl ?_
      refine aw_get (pc := 45) hC inX3 (v0 (j := 7) (by decide)) rfl rfl 0 (by decide) kw85 rfl rfl dX3_read_45 ?_
      refine aw_callVR (pc := 48) (As := []) hC mb_X8_kind kw697 (by decide) (c_X8_kind G C.2.1   μ2 ) (v0 (j := 3) (by decide)) rfl rfl rfl (Nat.le_of_ble_eq_true rfl) dX3_read_48 (fun q7 => ?_)
      refine aw_if_ne (pc := 51) (tgt := 58) hC dX3_read_51 (by decide) (fun _ => ?_) (fun _ => ?_)
      · skip
        refine aw_iconst (pc := 54) (v := 1) hC dX3_read_54 ic1 ?_
        refine aw_goto (pc := 55) (tgt := 59) hC dX3_read_55 (by decide) ?_
        exact aw_zret1 hC dX3_read_59
      · skip
        refine aw_iconst (pc := 58) (v := 0) hC dX3_read_58 ic0 ?_
        exact aw_zret0 hC dX3_read_59
theorem dX6_takeBack_0 : decode cX6_takeBack 0 = .ok (.aload_n 0, 1) := by decide +kernel
theorem dX6_takeBack_1 : decode cX6_takeBack 1 = .ok (.getfield 16, 3) := by decide +kernel
theorem dX6_takeBack_4 : decode cX6_takeBack 4 = .ok (.bipush 12, 2) := by decide +kernel
theorem dX6_takeBack_6 : decode cX6_takeBack 6 = .ok (.iadd, 1) := by decide +kernel
theorem dX6_takeBack_7 : decode cX6_takeBack 7 = .ok (.iconst 1, 1) := by decide +kernel
theorem dX6_takeBack_8 : decode cX6_takeBack 8 = .ok (.isub, 1) := by decide +kernel
theorem dX6_takeBack_9 : decode cX6_takeBack 9 = .ok (.bipush 12, 2) := by decide +kernel
theorem dX6_takeBack_11 : decode cX6_takeBack 11 = .ok (.irem, 1) := by decide +kernel
theorem dX6_takeBack_12 : decode cX6_takeBack 12 = .ok (.istore_n 2, 1) := by decide +kernel
theorem dX6_takeBack_13 : decode cX6_takeBack 13 = .ok (.iload_n 2, 1) := by decide +kernel
theorem dX6_takeBack_14 : decode cX6_takeBack 14 = .ok (.ifCond .lt 21, 3) := by decide +kernel
theorem dX6_takeBack_17 : decode cX6_takeBack 17 = .ok (.iload_n 2, 1) := by decide +kernel
theorem dX6_takeBack_18 : decode cX6_takeBack 18 = .ok (.aload_n 0, 1) := by decide +kernel
theorem dX6_takeBack_19 : decode cX6_takeBack 19 = .ok (.getfield 11, 3) := by decide +kernel
theorem dX6_takeBack_22 : decode cX6_takeBack 22 = .ok (.arraylength, 1) := by decide +kernel
theorem dX6_takeBack_23 : decode cX6_takeBack 23 = .ok (.if_icmp .ge 12, 3) := by decide +kernel
theorem dX6_takeBack_26 : decode cX6_takeBack 26 = .ok (.aload_n 0, 1) := by decide +kernel
theorem dX6_takeBack_27 : decode cX6_takeBack 27 = .ok (.getfield 11, 3) := by decide +kernel
theorem dX6_takeBack_30 : decode cX6_takeBack 30 = .ok (.iload_n 2, 1) := by decide +kernel
theorem dX6_takeBack_31 : decode cX6_takeBack 31 = .ok (.aaload, 1) := by decide +kernel
theorem dX6_takeBack_32 : decode cX6_takeBack 32 = .ok (.goto 4, 3) := by decide +kernel
theorem dX6_takeBack_35 : decode cX6_takeBack 35 = .ok (.aconst_null, 1) := by decide +kernel
theorem dX6_takeBack_36 : decode cX6_takeBack 36 = .ok (.astore_n 3, 1) := by decide +kernel
theorem dX6_takeBack_37 : decode cX6_takeBack 37 = .ok (.aload_n 0, 1) := by decide +kernel
theorem dX6_takeBack_38 : decode cX6_takeBack 38 = .ok (.getfield 24, 3) := by decide +kernel
theorem dX6_takeBack_41 : decode cX6_takeBack 41 = .ok (.ifCond .eq 7, 3) := by decide +kernel
theorem dX6_takeBack_44 : decode cX6_takeBack 44 = .ok (.aload_n 3, 1) := by decide +kernel
theorem dX6_takeBack_45 : decode cX6_takeBack 45 = .ok (.ifnonnull 5, 3) := by decide +kernel
theorem dX6_takeBack_48 : decode cX6_takeBack 48 = .ok (.iconst 0, 1) := by decide +kernel
theorem dX6_takeBack_49 : decode cX6_takeBack 49 = .ok (.ireturn, 1) := by decide +kernel
theorem dX6_takeBack_50 : decode cX6_takeBack 50 = .ok (.aload_n 1, 1) := by decide +kernel
theorem dX6_takeBack_51 : decode cX6_takeBack 51 = .ok (.aload_n 3, 1) := by decide +kernel
theorem dX6_takeBack_52 : decode cX6_takeBack 52 = .ok (.invokevirtual 20, 3) := by decide +kernel
theorem dX6_takeBack_55 : decode cX6_takeBack 55 = .ok (.aload_n 0, 1) := by decide +kernel
theorem dX6_takeBack_56 : decode cX6_takeBack 56 = .ok (.iload_n 2, 1) := by decide +kernel
theorem dX6_takeBack_57 : decode cX6_takeBack 57 = .ok (.putfield 16, 3) := by decide +kernel
theorem dX6_takeBack_60 : decode cX6_takeBack 60 = .ok (.aload_n 0, 1) := by decide +kernel
theorem dX6_takeBack_61 : decode cX6_takeBack 61 = .ok (.dup, 1) := by decide +kernel
theorem dX6_takeBack_62 : decode cX6_takeBack 62 = .ok (.getfield 24, 3) := by decide +kernel
theorem dX6_takeBack_65 : decode cX6_takeBack 65 = .ok (.iconst 1, 1) := by decide +kernel
theorem dX6_takeBack_66 : decode cX6_takeBack 66 = .ok (.isub, 1) := by decide +kernel
theorem dX6_takeBack_67 : decode cX6_takeBack 67 = .ok (.putfield 24, 3) := by decide +kernel
theorem dX6_takeBack_70 : decode cX6_takeBack 70 = .ok (.iconst 1, 1) := by decide +kernel
theorem dX6_takeBack_71 : decode cX6_takeBack 71 = .ok (.ireturn, 1) := by decide +kernel
def f_X6_takeBack (h1 : Nat) (μ : Mem) : Option (Int32 × Mem) := nm (jrem (((μ 0 9 1) + 12) - 1) 12) fun (x1 : Int32) => nm (if (μ 0 9 2) = 0 then (some (0, μ)) else (some (0, μ))) fun (J35 : Option (Int32 × Mem)) => if x1 < 0 then (J35) else (if 12 ≤ x1 then (J35) else (ix x1 12 (if (μ 0 9 2) = 0 then (some (0, μ)) else ((f_X2_copy h1 (x1.toNatClampNeg + 3) μ).bind fun (q2 : Mem) => nm (upm q2 0 9 1 x1) fun (μ3 : Mem) => nm (upm μ3 0 9 2 ((μ3 0 9 2) - 1)) fun (μ4 : Mem) => some (1, μ4)))))
set_option maxHeartbeats 4000000 in
set_option maxRecDepth 100000 in
theorem c_X6_takeBack (G : GG) (l : Launch) (h1 : Nat) (hh1 : h1 < 15) (μ : Mem) : CI G l yX6_takeBack (.code yX6_takeBack cX6_takeBack 4 (some .boolean)) 4 [.ref (gad G 0 9), .ref (gad G (h1 + 1) 0)] μ (f_X6_takeBack h1 μ) := by
  refine CI.of (own := "SaturdayKeep$Past") (L0 := [some (.ref (gad G 0 9)), some (.ref (gad G (h1 + 1) 0)), none, none]) rfl rfl rfl (Nat.le_of_ble_eq_true rfl) (fun C hl hC => ?_)
  subst hl
  delta f_X6_takeBack
  refine aw_aload_n (pc := 0) (i := 0) hC dX6_takeBack_0 rfl rfl ?_
  refine aw_get (pc := 1) hC inX6 (v0 (j := 9) (by decide)) rfl rfl 1 (by decide) kw266 rfl rfl dX6_takeBack_1 ?_
  refine aw_bipush (pc := 4) (v := 12) hC dX6_takeBack_4 bc12 ?_
  refine aw_iadd (pc := 6) hC dX6_takeBack_6 ?_
  refine aw_iconst (pc := 7) (v := 1) hC dX6_takeBack_7 ic1 ?_
  refine aw_isub (pc := 8) hC dX6_takeBack_8 ?_
  refine aw_bipush (pc := 9) (v := 12) hC dX6_takeBack_9 bc12 ?_
  refine aw_irem (pc := 11) hC dX6_takeBack_11 (by decide) ?_
  refine aw_nmI (fun x1 _ => ?_)
  refine aw_istore_n (pc := 12) (i := 2) hC dX6_takeBack_12 rfl rfl (by decide) ?_
  refine aw_iload_n (pc := 13) (i := 2) hC dX6_takeBack_13 rfl rfl ?_
  refine aw_nmJ (fun (J35 : Option (Int32 × Mem)) => AW G C (qI G C 0 0) 0 0 4 μ 35 [some (.ref (gad G 0 9)), some (.ref (gad G (h1 + 1) 0)), some (.int x1), none] [] (J35)) ?_ (fun J35 hJ35 => ?_)
  · skip
    refine aw_null (pc := 35) hC dX6_takeBack_35 ?_
    refine aw_astore_nN (pc := 36) (i := 3) hC dX6_takeBack_36 rfl rfl (by decide) ?_
    refine aw_aload_n (pc := 37) (i := 0) hC dX6_takeBack_37 rfl rfl ?_
    refine aw_get (pc := 38) hC inX6 (v0 (j := 9) (by decide)) rfl rfl 2 (by decide) kw267 rfl rfl dX6_takeBack_38 ?_
    refine aw_if_eq (pc := 41) (tgt := 48) hC dX6_takeBack_41 (by decide) (fun _ => ?_) (fun _ => ?_)
    · skip
      refine aw_iconst (pc := 48) (v := 0) hC dX6_takeBack_48 ic0 ?_
      exact aw_zret0 hC dX6_takeBack_49
    · skip
      refine aw_aload_nN (pc := 44) (i := 3) hC dX6_takeBack_44 rfl rfl ?_
      refine aw_ifnonnullN (pc := 45) hC dX6_takeBack_45 ?_
      refine aw_iconst (pc := 48) (v := 0) hC dX6_takeBack_48 ic0 ?_
      exact aw_zret0 hC dX6_takeBack_49
  · skip
    refine aw_if_lt (pc := 14) (tgt := 35) hC dX6_takeBack_14 (by decide) (fun _ => ?_) (fun _ => ?_)
    · skip
      exact hJ35
    · skip
      refine aw_iload_n (pc := 17) (i := 2) hC dX6_takeBack_17 rfl rfl ?_
      refine aw_aload_n (pc := 18) (i := 0) hC dX6_takeBack_18 rfl rfl ?_
      refine aw_get (pc := 19) hC inX6 (v0 (j := 9) (by decide)) rfl rfl 0 (by decide) kw265 rfl rfl dX6_takeBack_19 ?_
      refine aw_alenH (pc := 22) (v := 12) hC (by decide) dX6_takeBack_22 ?_
      refine aw_icmp_ge (pc := 23) (tgt := 35) hC dX6_takeBack_23 (by decide) (fun _ => ?_) (fun _ => ?_)
      · skip
        exact hJ35
      · skip
        refine aw_aload_n (pc := 26) (i := 0) hC dX6_takeBack_26 rfl rfl ?_
        refine aw_get (pc := 27) hC inX6 (v0 (j := 9) (by decide)) rfl rfl 0 (by decide) kw265 rfl rfl dX6_takeBack_27 ?_
        refine aw_iload_n (pc := 30) (i := 2) hC dX6_takeBack_30 rfl rfl ?_
        refine aw_aaloadHb (pc := 31) hC dX6_takeBack_31 (fun hb31 => ?_)
        refine aw_goto (pc := 32) (tgt := 36) hC dX6_takeBack_32 (by decide) ?_
        refine aw_astore_n (pc := 36) (i := 3) hC dX6_takeBack_36 rfl rfl (by decide) ?_
        refine aw_aload_n (pc := 37) (i := 0) hC dX6_takeBack_37 rfl rfl ?_
        refine aw_get (pc := 38) hC inX6 (v0 (j := 9) (by decide)) rfl rfl 2 (by decide) kw267 rfl rfl dX6_takeBack_38 ?_
        refine aw_if_eq (pc := 41) (tgt := 48) hC dX6_takeBack_41 (by decide) (fun _ => ?_) (fun _ => ?_)
        · skip
          refine aw_iconst (pc := 48) (v := 0) hC dX6_takeBack_48 ic0 ?_
          exact aw_zret0 hC dX6_takeBack_49
        · skip
          refine aw_aload_n (pc := 44) (i := 3) hC dX6_takeBack_44 rfl rfl ?_
          refine aw_ifnonnull (pc := 45) (tgt := 50) hC dX6_takeBack_45 (by decide) ?_
          refine aw_aload_n (pc := 50) (i := 1) hC dX6_takeBack_50 rfl rfl ?_
          refine aw_aload_n (pc := 51) (i := 3) hC dX6_takeBack_51 rfl rfl ?_
          refine aw_callVV (pc := 52) (As := [.ref (gad G (x1.toNatClampNeg + 4) 0)]) hC mb_X2_copy kw551 (by decide) (c_X2_copy G C.2.1 h1 (x1.toNatClampNeg + 3) (Nat.lt_of_lt_of_le hh1 (by decide)) (by omega) μ ) (vH (j := 0) hh1 (by decide)) rfl rfl rfl (Nat.le_of_ble_eq_true rfl) dX6_takeBack_52 (fun q2 => ?_)
          refine aw_aload_n (pc := 55) (i := 0) hC dX6_takeBack_55 rfl rfl ?_
          refine aw_iload_n (pc := 56) (i := 2) hC dX6_takeBack_56 rfl rfl ?_
          refine aw_putIN (pc := 57) hC inX6 (v0 (j := 9) (by decide)) rfl rfl 1 (by decide) kw266 rfl tyX6 tyX6_ok nmX6 rfl rfl (Nat.le_of_ble_eq_true rfl) rfl dX6_takeBack_57 (fun μ3 => ?_)
          refine aw_aload_n (pc := 60) (i := 0) hC dX6_takeBack_60 rfl rfl ?_
          refine aw_dup (pc := 61) hC dX6_takeBack_61 rfl ?_
          refine aw_get (pc := 62) hC inX6 (v0 (j := 9) (by decide)) rfl rfl 2 (by decide) kw267 rfl rfl dX6_takeBack_62 ?_
          refine aw_iconst (pc := 65) (v := 1) hC dX6_takeBack_65 ic1 ?_
          refine aw_isub (pc := 66) hC dX6_takeBack_66 ?_
          refine aw_putIN (pc := 67) hC inX6 (v0 (j := 9) (by decide)) rfl rfl 2 (by decide) kw267 rfl tyX6 tyX6_ok nmX6 rfl rfl (Nat.le_of_ble_eq_true rfl) rfl dX6_takeBack_67 (fun μ4 => ?_)
          refine aw_iconst (pc := 70) (v := 1) hC dX6_takeBack_70 ic1 ?_
          exact aw_zret1 hC dX6_takeBack_71
theorem dX6_forget_0 : decode cX6_forget 0 = .ok (.aload_n 0, 1) := by decide +kernel
theorem dX6_forget_1 : decode cX6_forget 1 = .ok (.iconst 0, 1) := by decide +kernel
theorem dX6_forget_2 : decode cX6_forget 2 = .ok (.putfield 24, 3) := by decide +kernel
theorem dX6_forget_5 : decode cX6_forget 5 = .ok (.return_, 1) := by decide +kernel
def f_X6_forget (μ : Mem) : Option (Mem) := nm (upm μ 0 9 2 0) fun (μ1 : Mem) => some μ1
set_option maxHeartbeats 4000000 in
set_option maxRecDepth 100000 in
theorem c_X6_forget (G : GG) (l : Launch) (μ : Mem) : CV G l yX6_forget (.code yX6_forget cX6_forget 1 none) 1 [.ref (gad G 0 9)] μ (f_X6_forget μ) := by
  refine CV.of (own := "SaturdayKeep$Past") (L0 := [some (.ref (gad G 0 9))]) rfl rfl rfl (Nat.le_of_ble_eq_true rfl) (fun C hl hC => ?_)
  subst hl
  delta f_X6_forget
  refine aw_aload_n (pc := 0) (i := 0) hC dX6_forget_0 rfl rfl ?_
  refine aw_iconst (pc := 1) (v := 0) hC dX6_forget_1 ic0 ?_
  refine aw_putIN (pc := 2) hC inX6 (v0 (j := 9) (by decide)) rfl rfl 2 (by decide) kw267 rfl tyX6 tyX6_ok nmX6 rfl rfl (Nat.le_of_ble_eq_true rfl) rfl dX6_forget_2 (fun μ1 => ?_)
  exact aw_vret hC dX6_forget_5
theorem dX6_remember_0 : decode cX6_remember 0 = .ok (.aload_n 0, 1) := by decide +kernel
theorem dX6_remember_1 : decode cX6_remember 1 = .ok (.getfield 16, 3) := by decide +kernel
theorem dX6_remember_4 : decode cX6_remember 4 = .ok (.ifCond .lt 27, 3) := by decide +kernel
theorem dX6_remember_7 : decode cX6_remember 7 = .ok (.aload_n 0, 1) := by decide +kernel
theorem dX6_remember_8 : decode cX6_remember 8 = .ok (.getfield 16, 3) := by decide +kernel
theorem dX6_remember_11 : decode cX6_remember 11 = .ok (.aload_n 0, 1) := by decide +kernel
theorem dX6_remember_12 : decode cX6_remember 12 = .ok (.getfield 11, 3) := by decide +kernel
theorem dX6_remember_15 : decode cX6_remember 15 = .ok (.arraylength, 1) := by decide +kernel
theorem dX6_remember_16 : decode cX6_remember 16 = .ok (.if_icmp .ge 15, 3) := by decide +kernel
theorem dX6_remember_19 : decode cX6_remember 19 = .ok (.aload_n 0, 1) := by decide +kernel
theorem dX6_remember_20 : decode cX6_remember 20 = .ok (.getfield 11, 3) := by decide +kernel
theorem dX6_remember_23 : decode cX6_remember 23 = .ok (.aload_n 0, 1) := by decide +kernel
theorem dX6_remember_24 : decode cX6_remember 24 = .ok (.getfield 16, 3) := by decide +kernel
theorem dX6_remember_27 : decode cX6_remember 27 = .ok (.aaload, 1) := by decide +kernel
theorem dX6_remember_28 : decode cX6_remember 28 = .ok (.goto 4, 3) := by decide +kernel
theorem dX6_remember_31 : decode cX6_remember 31 = .ok (.aconst_null, 1) := by decide +kernel
theorem dX6_remember_32 : decode cX6_remember 32 = .ok (.astore_n 2, 1) := by decide +kernel
theorem dX6_remember_33 : decode cX6_remember 33 = .ok (.aload_n 2, 1) := by decide +kernel
theorem dX6_remember_34 : decode cX6_remember 34 = .ok (.ifnull 36, 3) := by decide +kernel
theorem dX6_remember_37 : decode cX6_remember 37 = .ok (.aload_n 2, 1) := by decide +kernel
theorem dX6_remember_38 : decode cX6_remember 38 = .ok (.aload_n 1, 1) := by decide +kernel
theorem dX6_remember_39 : decode cX6_remember 39 = .ok (.invokevirtual 20, 3) := by decide +kernel
theorem dX6_remember_42 : decode cX6_remember 42 = .ok (.aload_n 0, 1) := by decide +kernel
theorem dX6_remember_43 : decode cX6_remember 43 = .ok (.aload_n 0, 1) := by decide +kernel
theorem dX6_remember_44 : decode cX6_remember 44 = .ok (.getfield 16, 3) := by decide +kernel
theorem dX6_remember_47 : decode cX6_remember 47 = .ok (.iconst 1, 1) := by decide +kernel
theorem dX6_remember_48 : decode cX6_remember 48 = .ok (.iadd, 1) := by decide +kernel
theorem dX6_remember_49 : decode cX6_remember 49 = .ok (.bipush 12, 2) := by decide +kernel
theorem dX6_remember_51 : decode cX6_remember 51 = .ok (.irem, 1) := by decide +kernel
theorem dX6_remember_52 : decode cX6_remember 52 = .ok (.putfield 16, 3) := by decide +kernel
theorem dX6_remember_55 : decode cX6_remember 55 = .ok (.aload_n 0, 1) := by decide +kernel
theorem dX6_remember_56 : decode cX6_remember 56 = .ok (.bipush 12, 2) := by decide +kernel
theorem dX6_remember_58 : decode cX6_remember 58 = .ok (.aload_n 0, 1) := by decide +kernel
theorem dX6_remember_59 : decode cX6_remember 59 = .ok (.getfield 24, 3) := by decide +kernel
theorem dX6_remember_62 : decode cX6_remember 62 = .ok (.iconst 1, 1) := by decide +kernel
theorem dX6_remember_63 : decode cX6_remember 63 = .ok (.iadd, 1) := by decide +kernel
theorem dX6_remember_64 : decode cX6_remember 64 = .ok (.invokestatic 27, 3) := by decide +kernel
theorem dX6_remember_67 : decode cX6_remember 67 = .ok (.putfield 24, 3) := by decide +kernel
theorem dX6_remember_70 : decode cX6_remember 70 = .ok (.return_, 1) := by decide +kernel
def f_X6_remember (h1 : Nat) (μ : Mem) : Option (Mem) := nm (some μ) fun (J31 : Option (Mem)) => if (μ 0 9 1) < 0 then (J31) else (if 12 ≤ (μ 0 9 1) then (J31) else (ix (μ 0 9 1) 12 ((f_X2_copy ((μ 0 9 1).toNatClampNeg + 3) h1 μ).bind fun (q1 : Mem) => nm (upm q1 0 9 1 (jrem ((q1 0 9 1) + 1) 12)) fun (μ2 : Mem) => nm (upm μ2 0 9 2 (jmin 12 ((μ2 0 9 2) + 1))) fun (μ3 : Mem) => some μ3)))
set_option maxHeartbeats 4000000 in
set_option maxRecDepth 100000 in
theorem c_X6_remember (G : GG) (l : Launch) (h1 : Nat) (hh1 : h1 < 15) (μ : Mem) : CV G l yX6_remember (.code yX6_remember cX6_remember 3 none) 4 [.ref (gad G 0 9), .ref (gad G (h1 + 1) 0)] μ (f_X6_remember h1 μ) := by
  refine CV.of (own := "SaturdayKeep$Past") (L0 := [some (.ref (gad G 0 9)), some (.ref (gad G (h1 + 1) 0)), none]) rfl rfl rfl (Nat.le_of_ble_eq_true rfl) (fun C hl hC => ?_)
  subst hl
  delta f_X6_remember
  refine aw_aload_n (pc := 0) (i := 0) hC dX6_remember_0 rfl rfl ?_
  refine aw_get (pc := 1) hC inX6 (v0 (j := 9) (by decide)) rfl rfl 1 (by decide) kw266 rfl rfl dX6_remember_1 ?_
  refine aw_nmJ (fun (J31 : Option (Mem)) => AW G C (qV G C 0 0) 0 0 3 μ 31 [some (.ref (gad G 0 9)), some (.ref (gad G (h1 + 1) 0)), none] [] (J31)) ?_ (fun J31 hJ31 => ?_)
  · skip
    refine aw_null (pc := 31) hC dX6_remember_31 ?_
    refine aw_astore_nN (pc := 32) (i := 2) hC dX6_remember_32 rfl rfl (by decide) ?_
    refine aw_aload_nN (pc := 33) (i := 2) hC dX6_remember_33 rfl rfl ?_
    refine aw_ifnullN (pc := 34) (tgt := 70) hC dX6_remember_34 (by decide) ?_
    exact aw_vret hC dX6_remember_70
  · skip
    refine aw_if_lt (pc := 4) (tgt := 31) hC dX6_remember_4 (by decide) (fun _ => ?_) (fun _ => ?_)
    · skip
      exact hJ31
    · skip
      refine aw_aload_n (pc := 7) (i := 0) hC dX6_remember_7 rfl rfl ?_
      refine aw_get (pc := 8) hC inX6 (v0 (j := 9) (by decide)) rfl rfl 1 (by decide) kw266 rfl rfl dX6_remember_8 ?_
      refine aw_aload_n (pc := 11) (i := 0) hC dX6_remember_11 rfl rfl ?_
      refine aw_get (pc := 12) hC inX6 (v0 (j := 9) (by decide)) rfl rfl 0 (by decide) kw265 rfl rfl dX6_remember_12 ?_
      refine aw_alenH (pc := 15) (v := 12) hC (by decide) dX6_remember_15 ?_
      refine aw_icmp_ge (pc := 16) (tgt := 31) hC dX6_remember_16 (by decide) (fun _ => ?_) (fun _ => ?_)
      · skip
        exact hJ31
      · skip
        refine aw_aload_n (pc := 19) (i := 0) hC dX6_remember_19 rfl rfl ?_
        refine aw_get (pc := 20) hC inX6 (v0 (j := 9) (by decide)) rfl rfl 0 (by decide) kw265 rfl rfl dX6_remember_20 ?_
        refine aw_aload_n (pc := 23) (i := 0) hC dX6_remember_23 rfl rfl ?_
        refine aw_get (pc := 24) hC inX6 (v0 (j := 9) (by decide)) rfl rfl 1 (by decide) kw266 rfl rfl dX6_remember_24 ?_
        refine aw_aaloadHb (pc := 27) hC dX6_remember_27 (fun hb27 => ?_)
        refine aw_goto (pc := 28) (tgt := 32) hC dX6_remember_28 (by decide) ?_
        refine aw_astore_n (pc := 32) (i := 2) hC dX6_remember_32 rfl rfl (by decide) ?_
        refine aw_aload_n (pc := 33) (i := 2) hC dX6_remember_33 rfl rfl ?_
        refine aw_ifnull (pc := 34) hC dX6_remember_34 ?_
        refine aw_aload_n (pc := 37) (i := 2) hC dX6_remember_37 rfl rfl ?_
        refine aw_aload_n (pc := 38) (i := 1) hC dX6_remember_38 rfl rfl ?_
        refine aw_callVV (pc := 39) (As := [.ref (gad G (h1 + 1) 0)]) hC mb_X2_copy kw551 (by decide) (c_X2_copy G C.2.1 ((μ 0 9 1).toNatClampNeg + 3) h1 (by omega) (Nat.lt_of_lt_of_le hh1 (by decide)) μ ) (vH (h := (μ 0 9 1).toNatClampNeg + 3) (j := 0) (by omega) (by decide)) rfl rfl rfl (Nat.le_of_ble_eq_true rfl) dX6_remember_39 (fun q1 => ?_)
        refine aw_aload_n (pc := 42) (i := 0) hC dX6_remember_42 rfl rfl ?_
        refine aw_aload_n (pc := 43) (i := 0) hC dX6_remember_43 rfl rfl ?_
        refine aw_get (pc := 44) hC inX6 (v0 (j := 9) (by decide)) rfl rfl 1 (by decide) kw266 rfl rfl dX6_remember_44 ?_
        refine aw_iconst (pc := 47) (v := 1) hC dX6_remember_47 ic1 ?_
        refine aw_iadd (pc := 48) hC dX6_remember_48 ?_
        refine aw_bipush (pc := 49) (v := 12) hC dX6_remember_49 bc12 ?_
        refine aw_irem (pc := 51) hC dX6_remember_51 (by decide) ?_
        refine aw_putIN (pc := 52) hC inX6 (v0 (j := 9) (by decide)) rfl rfl 1 (by decide) kw266 rfl tyX6 tyX6_ok nmX6 rfl rfl (Nat.le_of_ble_eq_true rfl) rfl dX6_remember_52 (fun μ2 => ?_)
        refine aw_aload_n (pc := 55) (i := 0) hC dX6_remember_55 rfl rfl ?_
        refine aw_bipush (pc := 56) (v := 12) hC dX6_remember_56 bc12 ?_
        refine aw_aload_n (pc := 58) (i := 0) hC dX6_remember_58 rfl rfl ?_
        refine aw_get (pc := 59) hC inX6 (v0 (j := 9) (by decide)) rfl rfl 2 (by decide) kw267 rfl rfl dX6_remember_59 ?_
        refine aw_iconst (pc := 62) (v := 1) hC dX6_remember_62 ic1 ?_
        refine aw_iadd (pc := 63) hC dX6_remember_63 ?_
        refine aw_mmin (pc := 64) hC kw989 kw367 kw12 kw368 (by decide) (Nat.le_of_ble_eq_true rfl) dX6_remember_64 ?_
        refine aw_putIN (pc := 67) hC inX6 (v0 (j := 9) (by decide)) rfl rfl 2 (by decide) kw267 rfl tyX6 tyX6_ok nmX6 rfl rfl (Nat.le_of_ble_eq_true rfl) rfl dX6_remember_67 (fun μ3 => ?_)
        exact aw_vret hC dX6_remember_70
