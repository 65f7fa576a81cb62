theorem sc240 : (Int16.ofInt 240).toInt32 = 240 := by decide +kernel
theorem sc401 : (Int16.ofInt 401).toInt32 = 401 := by decide +kernel
theorem sc2304 : (Int16.ofInt 2304).toInt32 = 2304 := by decide +kernel
theorem sc3648 : (Int16.ofInt 3648).toInt32 = 3648 := by decide +kernel
theorem dfX0 : ∀ j, j < 3 → defaultValue (tyX0 j) = vp_V [.null, .int 0, .int 0] j := fun j hj => by
  match j, hj with
  | 0, _ => rfl
  | 1, _ => rfl
  | 2, _ => rfl
  | k + 3, h => exact absurd h (by omega)
theorem dfX1 : ∀ j, j < 6 → defaultValue (tyX1 j) = vp_V [.null, .null, .null, .int 0, .int 0, .int 0] j := fun j hj => by
  match j, hj with
  | 0, _ => rfl
  | 1, _ => rfl
  | 2, _ => rfl
  | 3, _ => rfl
  | 4, _ => rfl
  | 5, _ => rfl
  | k + 6, h => exact absurd h (by omega)
theorem dfX2 : ∀ j, j < 17 → defaultValue (tyX2 j) = vp_V [.null, .null, .null, .null, .null, .int 0, .int 0, .int 0, .int 0, .int 0, .int 0, .int 0, .int 0, .int 0, .int 0, .int 0, .int 0] j := fun j hj => by
  match j, hj with
  | 0, _ => rfl
  | 1, _ => rfl
  | 2, _ => rfl
  | 3, _ => rfl
  | 4, _ => rfl
  | 5, _ => rfl
  | 6, _ => rfl
  | 7, _ => rfl
  | 8, _ => rfl
  | 9, _ => rfl
  | 10, _ => rfl
  | 11, _ => rfl
  | 12, _ => rfl
  | 13, _ => rfl
  | 14, _ => rfl
  | 15, _ => rfl
  | 16, _ => rfl
  | k + 17, h => exact absurd h (by omega)
theorem dfX3 : ∀ j, j < 1 → defaultValue (tyX3 j) = vp_V [.null] j := fun j hj => by
  match j, hj with
  | 0, _ => rfl
  | k + 1, h => exact absurd h (by omega)
theorem dfX4 : ∀ j, j < 5 → defaultValue (tyX4 j) = vp_V [.null, .null, .int 0, .int 0, .int 0] j := fun j hj => by
  match j, hj with
  | 0, _ => rfl
  | 1, _ => rfl
  | 2, _ => rfl
  | 3, _ => rfl
  | 4, _ => rfl
  | k + 5, h => exact absurd h (by omega)
theorem dfX5 : ∀ j, j < 2 → defaultValue (tyX5 j) = vp_V [.null, .null] j := fun j hj => by
  match j, hj with
  | 0, _ => rfl
  | 1, _ => rfl
  | k + 2, h => exact absurd h (by omega)
theorem dfX6 : ∀ j, j < 3 → defaultValue (tyX6 j) = vp_V [.null, .int 0, .int 0] j := fun j hj => by
  match j, hj with
  | 0, _ => rfl
  | 1, _ => rfl
  | 2, _ => rfl
  | k + 3, h => exact absurd h (by omega)
theorem dfX7 : ∀ j, j < 2 → defaultValue (tyX7 j) = vp_V [.null, .int 0] j := fun j hj => by
  match j, hj with
  | 0, _ => rfl
  | 1, _ => rfl
  | k + 2, h => exact absurd h (by omega)
theorem dfX8 : ∀ j, j < 6 → defaultValue (tyX8 j) = vp_V [.null, .null, .null, .int 0, .int 0, .int 0] j := fun j hj => by
  match j, hj with
  | 0, _ => rfl
  | 1, _ => rfl
  | 2, _ => rfl
  | 3, _ => rfl
  | 4, _ => rfl
  | 5, _ => rfl
  | k + 6, h => exact absurd h (by omega)
theorem dfX9 : ∀ j, j < 11 → defaultValue (tyX9 j) = vp_V [.null, .null, .null, .null, .null, .null, .null, .null, .null, .int 0, .int 0] j := fun j hj => by
  match j, hj with
  | 0, _ => rfl
  | 1, _ => rfl
  | 2, _ => rfl
  | 3, _ => rfl
  | 4, _ => rfl
  | 5, _ => rfl
  | 6, _ => rfl
  | 7, _ => rfl
  | 8, _ => rfl
  | 9, _ => rfl
  | 10, _ => rfl
  | k + 11, h => exact absurd h (by omega)
theorem dfX10 : ∀ j, j < 22 → defaultValue (tyX10 j) = vp_V [.int 0, .null, .null, .int 0, .null, .null, .int 0, .null, .int 0, .int 0, .int 0, .int 0, .int 0, .int 0, .null, .int 0, .int 0, .int 0, .null, .int 0, .null, .null] j := fun j hj => by
  match j, hj with
  | 0, _ => rfl
  | 1, _ => rfl
  | 2, _ => rfl
  | 3, _ => rfl
  | 4, _ => rfl
  | 5, _ => rfl
  | 6, _ => rfl
  | 7, _ => rfl
  | 8, _ => rfl
  | 9, _ => rfl
  | 10, _ => rfl
  | 11, _ => rfl
  | 12, _ => rfl
  | 13, _ => rfl
  | 14, _ => rfl
  | 15, _ => rfl
  | 16, _ => rfl
  | 17, _ => rfl
  | 18, _ => rfl
  | 19, _ => rfl
  | 20, _ => rfl
  | 21, _ => rfl
  | k + 22, h => exact absurd h (by omega)
theorem dX0_init_0 : decode cX0_init 0 = .ok (.aload_n 0, 1) := by decide +kernel
theorem dX0_init_1 : decode cX0_init 1 = .ok (.invokespecial 3, 3) := by decide +kernel
theorem dX0_init_4 : decode cX0_init 4 = .ok (.aload_n 0, 1) := by decide +kernel
theorem dX0_init_5 : decode cX0_init 5 = .ok (.sipush 240, 3) := by decide +kernel
theorem dX0_init_8 : decode cX0_init 8 = .ok (.newarray .int, 2) := by decide +kernel
theorem dX0_init_10 : decode cX0_init 10 = .ok (.putfield 11, 3) := by decide +kernel
theorem dX0_init_13 : decode cX0_init 13 = .ok (.return_, 1) := by decide +kernel
set_option maxHeartbeats 4000000 in
set_option maxRecDepth 100000 in
theorem cn_X0 (G : GG) (l : Launch) (X : va_W) (h0 : Nat) : CN G l yX0_init (.code yX0_init cX0_init 1 none) 2 1 240 [.ref h0] (X ++ [(h0, .inr (0, [.null, .int 0, .int 0]))]) (fun ws' => ∃ q0 : Nat, ws' = X ++ [(h0, .inr (0, [.ref q0, .int 0, .int 0])), (q0, .inl (gcA G 0, 240, .inl fun _ => 0))]) := by
  refine CN.of (own := "SaturdayKeep$Book") (L0 := [some (.ref h0)]) rfl rfl rfl rfl (Nat.le_of_ble_eq_true rfl) (fun C hl hmc hms hnm hrt hC => ?_)
  subst hl
  refine bj_aload_n (pc := 0) (i := 0) hC dX0_init_0 rfl rfl ?_
  refine bj_objInit (pc := 1) hC kw170 kw33 kw34 dX0_init_1 (by have := hC.rm; omega) (by have := hC.rm; omega) (Nat.le_of_ble_eq_true rfl) ?_
  refine bj_aload_n (pc := 4) (i := 0) hC dX0_init_4 rfl rfl ?_
  refine bj_sipush (pc := 5) (v := 240) hC dX0_init_5 sc240 ?_
  refine bj_newa (pc := 8) (atype := .int) (a0 := (240, .inl fun _ => 0)) hC 0 kw50 rfl rfl (fun _ h => by cases h) (fun _ => rfl) (by decide) (by decide) (by decide) (Nat.le_trans (by decide) hmc) (Nat.le_trans (by decide) hms) dX0_init_8 (fun q0 => ?_)
  refine bj_putF (pc := 10) hC hnm inX0 tyX0 tyX0_ok nmX0 0 rfl rfl 0 (by decide) kw171 rfl rfl rfl rfl rfl rfl (Nat.le_of_ble_eq_true rfl) dX0_init_10 (R' := [(h0, .inr (0, [.ref q0, .int 0, .int 0])), (q0, .inl (gcA G 0, 240, .inl fun _ => 0))]) rfl ?_
  exact bj_ret (pc := 13) hC hrt dX0_init_13 (⟨q0, rfl⟩)
theorem dX1_init_0 : decode cX1_init 0 = .ok (.aload_n 0, 1) := by decide +kernel
theorem dX1_init_1 : decode cX1_init 1 = .ok (.invokespecial 3, 3) := by decide +kernel
theorem dX1_init_4 : decode cX1_init 4 = .ok (.aload_n 0, 1) := by decide +kernel
theorem dX1_init_5 : decode cX1_init 5 = .ok (.bipush 8, 2) := by decide +kernel
theorem dX1_init_7 : decode cX1_init 7 = .ok (.newarray .int, 2) := by decide +kernel
theorem dX1_init_9 : decode cX1_init 9 = .ok (.putfield 9, 3) := by decide +kernel
theorem dX1_init_12 : decode cX1_init 12 = .ok (.aload_n 0, 1) := by decide +kernel
theorem dX1_init_13 : decode cX1_init 13 = .ok (.bipush 8, 2) := by decide +kernel
theorem dX1_init_15 : decode cX1_init 15 = .ok (.newarray .int, 2) := by decide +kernel
theorem dX1_init_17 : decode cX1_init 17 = .ok (.putfield 15, 3) := by decide +kernel
theorem dX1_init_20 : decode cX1_init 20 = .ok (.aload_n 0, 1) := by decide +kernel
theorem dX1_init_21 : decode cX1_init 21 = .ok (.bipush 8, 2) := by decide +kernel
theorem dX1_init_23 : decode cX1_init 23 = .ok (.newarray .int, 2) := by decide +kernel
theorem dX1_init_25 : decode cX1_init 25 = .ok (.putfield 18, 3) := by decide +kernel
theorem dX1_init_28 : decode cX1_init 28 = .ok (.return_, 1) := by decide +kernel
set_option maxHeartbeats 4000000 in
set_option maxRecDepth 100000 in
theorem cn_X1 (G : GG) (l : Launch) (X : va_W) (h0 : Nat) : CN G l yX1_init (.code yX1_init cX1_init 1 none) 2 3 24 [.ref h0] (X ++ [(h0, .inr (1, [.null, .null, .null, .int 0, .int 0, .int 0]))]) (fun ws' => ∃ q0 q1 q2 : Nat, ws' = X ++ [(h0, .inr (1, [.ref q0, .ref q1, .ref q2, .int 0, .int 0, .int 0])), (q0, .inl (gcA G 0, 8, .inl fun _ => 0)), (q1, .inl (gcA G 0, 8, .inl fun _ => 0)), (q2, .inl (gcA G 0, 8, .inl fun _ => 0))]) := by
  refine CN.of (own := "SaturdayKeep$Guests") (L0 := [some (.ref h0)]) rfl rfl rfl rfl (Nat.le_of_ble_eq_true rfl) (fun C hl hmc hms hnm hrt hC => ?_)
  subst hl
  refine bj_aload_n (pc := 0) (i := 0) hC dX1_init_0 rfl rfl ?_
  refine bj_objInit (pc := 1) hC kw139 kw33 kw34 dX1_init_1 (by have := hC.rm; omega) (by have := hC.rm; omega) (Nat.le_of_ble_eq_true rfl) ?_
  refine bj_aload_n (pc := 4) (i := 0) hC dX1_init_4 rfl rfl ?_
  refine bj_bipush (pc := 5) (v := 8) hC dX1_init_5 bc8 ?_
  refine bj_newa (pc := 7) (atype := .int) (a0 := (8, .inl fun _ => 0)) hC 0 kw50 rfl rfl (fun _ h => by cases h) (fun _ => rfl) (by decide) (by decide) (by decide) (Nat.le_trans (by decide) hmc) (Nat.le_trans (by decide) hms) dX1_init_7 (fun q0 => ?_)
  refine bj_putF (pc := 9) hC hnm inX1 tyX1 tyX1_ok nmX1 0 rfl rfl 0 (by decide) kw140 rfl rfl rfl rfl rfl rfl (Nat.le_of_ble_eq_true rfl) dX1_init_9 (R' := [(h0, .inr (1, [.ref q0, .null, .null, .int 0, .int 0, .int 0])), (q0, .inl (gcA G 0, 8, .inl fun _ => 0))]) rfl ?_
  refine bj_aload_n (pc := 12) (i := 0) hC dX1_init_12 rfl rfl ?_
  refine bj_bipush (pc := 13) (v := 8) hC dX1_init_13 bc8 ?_
  refine bj_newa (pc := 15) (atype := .int) (a0 := (8, .inl fun _ => 0)) hC 0 kw50 rfl rfl (fun _ h => by cases h) (fun _ => rfl) (by decide) (by decide) (by decide) (Nat.le_trans (by decide) hmc) (Nat.le_trans (by decide) hms) dX1_init_15 (fun q1 => ?_)
  refine bj_putF (pc := 17) hC hnm inX1 tyX1 tyX1_ok nmX1 0 rfl rfl 1 (by decide) kw141 rfl rfl rfl rfl rfl rfl (Nat.le_of_ble_eq_true rfl) dX1_init_17 (R' := [(h0, .inr (1, [.ref q0, .ref q1, .null, .int 0, .int 0, .int 0])), (q0, .inl (gcA G 0, 8, .inl fun _ => 0)), (q1, .inl (gcA G 0, 8, .inl fun _ => 0))]) rfl ?_
  refine bj_aload_n (pc := 20) (i := 0) hC dX1_init_20 rfl rfl ?_
  refine bj_bipush (pc := 21) (v := 8) hC dX1_init_21 bc8 ?_
  refine bj_newa (pc := 23) (atype := .int) (a0 := (8, .inl fun _ => 0)) hC 0 kw50 rfl rfl (fun _ h => by cases h) (fun _ => rfl) (by decide) (by decide) (by decide) (Nat.le_trans (by decide) hmc) (Nat.le_trans (by decide) hms) dX1_init_23 (fun q2 => ?_)
  refine bj_putF (pc := 25) hC hnm inX1 tyX1 tyX1_ok nmX1 0 rfl rfl 2 (by decide) kw142 rfl rfl rfl rfl rfl rfl (Nat.le_of_ble_eq_true rfl) dX1_init_25 (R' := [(h0, .inr (1, [.ref q0, .ref q1, .ref q2, .int 0, .int 0, .int 0])), (q0, .inl (gcA G 0, 8, .inl fun _ => 0)), (q1, .inl (gcA G 0, 8, .inl fun _ => 0)), (q2, .inl (gcA G 0, 8, .inl fun _ => 0))]) rfl ?_
  exact bj_ret (pc := 28) hC hrt dX1_init_28 (⟨q0, q1, q2, rfl⟩)
theorem dX4_init_0 : decode cX4_init 0 = .ok (.aload_n 0, 1) := by decide +kernel
theorem dX4_init_1 : decode cX4_init 1 = .ok (.invokespecial 3, 3) := by decide +kernel
theorem dX4_init_4 : decode cX4_init 4 = .ok (.aload_n 0, 1) := by decide +kernel
theorem dX4_init_5 : decode cX4_init 5 = .ok (.sipush 400, 3) := by decide +kernel
theorem dX4_init_8 : decode cX4_init 8 = .ok (.newarray .int, 2) := by decide +kernel
theorem dX4_init_10 : decode cX4_init 10 = .ok (.putfield 9, 3) := by decide +kernel
theorem dX4_init_13 : decode cX4_init 13 = .ok (.aload_n 0, 1) := by decide +kernel
theorem dX4_init_14 : decode cX4_init 14 = .ok (.bipush 32, 2) := by decide +kernel
theorem dX4_init_16 : decode cX4_init 16 = .ok (.newarray .int, 2) := by decide +kernel
theorem dX4_init_18 : decode cX4_init 18 = .ok (.putfield 15, 3) := by decide +kernel
theorem dX4_init_21 : decode cX4_init 21 = .ok (.aload_n 0, 1) := by decide +kernel
theorem dX4_init_22 : decode cX4_init 22 = .ok (.iconst (-1), 1) := by decide +kernel
theorem dX4_init_23 : decode cX4_init 23 = .ok (.putfield 18, 3) := by decide +kernel
theorem dX4_init_26 : decode cX4_init 26 = .ok (.return_, 1) := by decide +kernel
set_option maxHeartbeats 4000000 in
set_option maxRecDepth 100000 in
theorem cn_X4 (G : GG) (l : Launch) (X : va_W) (h0 : Nat) : CN G l yX4_init (.code yX4_init cX4_init 1 none) 2 2 432 [.ref h0] (X ++ [(h0, .inr (4, [.null, .null, .int 0, .int 0, .int 0]))]) (fun ws' => ∃ q0 q1 : Nat, ws' = X ++ [(h0, .inr (4, [.ref q0, .ref q1, .int 0, .int 0, .int (-1)])), (q0, .inl (gcA G 0, 400, .inl fun _ => 0)), (q1, .inl (gcA G 0, 32, .inl fun _ => 0))]) := by
  refine CN.of (own := "SaturdayKeep$Law") (L0 := [some (.ref h0)]) rfl rfl rfl rfl (Nat.le_of_ble_eq_true rfl) (fun C hl hmc hms hnm hrt hC => ?_)
  subst hl
  refine bj_aload_n (pc := 0) (i := 0) hC dX4_init_0 rfl rfl ?_
  refine bj_objInit (pc := 1) hC kw100 kw33 kw34 dX4_init_1 (by have := hC.rm; omega) (by have := hC.rm; omega) (Nat.le_of_ble_eq_true rfl) ?_
  refine bj_aload_n (pc := 4) (i := 0) hC dX4_init_4 rfl rfl ?_
  refine bj_sipush (pc := 5) (v := 400) hC dX4_init_5 sc400 ?_
  refine bj_newa (pc := 8) (atype := .int) (a0 := (400, .inl fun _ => 0)) hC 0 kw50 rfl rfl (fun _ h => by cases h) (fun _ => rfl) (by decide) (by decide) (by decide) (Nat.le_trans (by decide) hmc) (Nat.le_trans (by decide) hms) dX4_init_8 (fun q0 => ?_)
  refine bj_putF (pc := 10) hC hnm inX4 tyX4 tyX4_ok nmX4 0 rfl rfl 0 (by decide) kw101 rfl rfl rfl rfl rfl rfl (Nat.le_of_ble_eq_true rfl) dX4_init_10 (R' := [(h0, .inr (4, [.ref q0, .null, .int 0, .int 0, .int 0])), (q0, .inl (gcA G 0, 400, .inl fun _ => 0))]) rfl ?_
  refine bj_aload_n (pc := 13) (i := 0) hC dX4_init_13 rfl rfl ?_
  refine bj_bipush (pc := 14) (v := 32) hC dX4_init_14 bc32 ?_
  refine bj_newa (pc := 16) (atype := .int) (a0 := (32, .inl fun _ => 0)) hC 0 kw50 rfl rfl (fun _ h => by cases h) (fun _ => rfl) (by decide) (by decide) (by decide) (Nat.le_trans (by decide) hmc) (Nat.le_trans (by decide) hms) dX4_init_16 (fun q1 => ?_)
  refine bj_putF (pc := 18) hC hnm inX4 tyX4 tyX4_ok nmX4 0 rfl rfl 1 (by decide) kw102 rfl rfl rfl rfl rfl rfl (Nat.le_of_ble_eq_true rfl) dX4_init_18 (R' := [(h0, .inr (4, [.ref q0, .ref q1, .int 0, .int 0, .int 0])), (q0, .inl (gcA G 0, 400, .inl fun _ => 0)), (q1, .inl (gcA G 0, 32, .inl fun _ => 0))]) rfl ?_
  refine bj_aload_n (pc := 21) (i := 0) hC dX4_init_21 rfl rfl ?_
  refine bj_iconst (pc := 22) (v := (-1)) hC dX4_init_22 icm1 ?_
  refine bj_put (pc := 23) hC inX4 tyX4 tyX4_ok nmX4 0 rfl rfl 4 (by decide) kw106 rfl rfl rfl rfl rfl (Nat.le_of_ble_eq_true rfl) dX4_init_23 (R' := [(h0, .inr (4, [.ref q0, .ref q1, .int 0, .int 0, .int (-1)])), (q0, .inl (gcA G 0, 400, .inl fun _ => 0)), (q1, .inl (gcA G 0, 32, .inl fun _ => 0))]) rfl ?_
  exact bj_ret (pc := 26) hC hrt dX4_init_26 (⟨q0, q1, rfl⟩)
theorem dX7_init_0 : decode cX7_init 0 = .ok (.aload_n 0, 1) := by decide +kernel
theorem dX7_init_1 : decode cX7_init 1 = .ok (.invokespecial 3, 3) := by decide +kernel
theorem dX7_init_4 : decode cX7_init 4 = .ok (.aload_n 0, 1) := by decide +kernel
theorem dX7_init_5 : decode cX7_init 5 = .ok (.sipush 400, 3) := by decide +kernel
theorem dX7_init_8 : decode cX7_init 8 = .ok (.newarray .int, 2) := by decide +kernel
theorem dX7_init_10 : decode cX7_init 10 = .ok (.putfield 9, 3) := by decide +kernel
theorem dX7_init_13 : decode cX7_init 13 = .ok (.return_, 1) := by decide +kernel
set_option maxHeartbeats 4000000 in
set_option maxRecDepth 100000 in
theorem cn_X7 (G : GG) (l : Launch) (X : va_W) (h0 : Nat) : CN G l yX7_init (.code yX7_init cX7_init 1 none) 2 1 400 [.ref h0] (X ++ [(h0, .inr (7, [.null, .int 0]))]) (fun ws' => ∃ q0 : Nat, ws' = X ++ [(h0, .inr (7, [.ref q0, .int 0])), (q0, .inl (gcA G 0, 400, .inl fun _ => 0))]) := by
  refine CN.of (own := "SaturdayKeep$Tape") (L0 := [some (.ref h0)]) rfl rfl rfl rfl (Nat.le_of_ble_eq_true rfl) (fun C hl hmc hms hnm hrt hC => ?_)
  subst hl
  refine bj_aload_n (pc := 0) (i := 0) hC dX7_init_0 rfl rfl ?_
  refine bj_objInit (pc := 1) hC kw40 kw33 kw34 dX7_init_1 (by have := hC.rm; omega) (by have := hC.rm; omega) (Nat.le_of_ble_eq_true rfl) ?_
  refine bj_aload_n (pc := 4) (i := 0) hC dX7_init_4 rfl rfl ?_
  refine bj_sipush (pc := 5) (v := 400) hC dX7_init_5 sc400 ?_
  refine bj_newa (pc := 8) (atype := .int) (a0 := (400, .inl fun _ => 0)) hC 0 kw50 rfl rfl (fun _ h => by cases h) (fun _ => rfl) (by decide) (by decide) (by decide) (Nat.le_trans (by decide) hmc) (Nat.le_trans (by decide) hms) dX7_init_8 (fun q0 => ?_)
  refine bj_putF (pc := 10) hC hnm inX7 tyX7 tyX7_ok nmX7 0 rfl rfl 0 (by decide) kw41 rfl rfl rfl rfl rfl rfl (Nat.le_of_ble_eq_true rfl) dX7_init_10 (R' := [(h0, .inr (7, [.ref q0, .int 0])), (q0, .inl (gcA G 0, 400, .inl fun _ => 0))]) rfl ?_
  exact bj_ret (pc := 13) hC hrt dX7_init_13 (⟨q0, rfl⟩)
theorem dX8_init_0 : decode cX8_init 0 = .ok (.aload_n 0, 1) := by decide +kernel
theorem dX8_init_1 : decode cX8_init 1 = .ok (.invokespecial 3, 3) := by decide +kernel
theorem dX8_init_4 : decode cX8_init 4 = .ok (.aload_n 0, 1) := by decide +kernel
theorem dX8_init_5 : decode cX8_init 5 = .ok (.sipush 401, 3) := by decide +kernel
theorem dX8_init_8 : decode cX8_init 8 = .ok (.newarray .int, 2) := by decide +kernel
theorem dX8_init_10 : decode cX8_init 10 = .ok (.putfield 9, 3) := by decide +kernel
theorem dX8_init_13 : decode cX8_init 13 = .ok (.aload_n 0, 1) := by decide +kernel
theorem dX8_init_14 : decode cX8_init 14 = .ok (.sipush 401, 3) := by decide +kernel
theorem dX8_init_17 : decode cX8_init 17 = .ok (.newarray .int, 2) := by decide +kernel
theorem dX8_init_19 : decode cX8_init 19 = .ok (.putfield 15, 3) := by decide +kernel
theorem dX8_init_22 : decode cX8_init 22 = .ok (.aload_n 0, 1) := by decide +kernel
theorem dX8_init_23 : decode cX8_init 23 = .ok (.sipush 401, 3) := by decide +kernel
theorem dX8_init_26 : decode cX8_init 26 = .ok (.newarray .int, 2) := by decide +kernel
theorem dX8_init_28 : decode cX8_init 28 = .ok (.putfield 18, 3) := by decide +kernel
theorem dX8_init_31 : decode cX8_init 31 = .ok (.return_, 1) := by decide +kernel
set_option maxHeartbeats 4000000 in
set_option maxRecDepth 100000 in
theorem cn_X8 (G : GG) (l : Launch) (X : va_W) (h0 : Nat) : CN G l yX8_init (.code yX8_init cX8_init 1 none) 2 3 1203 [.ref h0] (X ++ [(h0, .inr (8, [.null, .null, .null, .int 0, .int 0, .int 0]))]) (fun ws' => ∃ q0 q1 q2 : Nat, ws' = X ++ [(h0, .inr (8, [.ref q0, .ref q1, .ref q2, .int 0, .int 0, .int 0])), (q0, .inl (gcA G 0, 401, .inl fun _ => 0)), (q1, .inl (gcA G 0, 401, .inl fun _ => 0)), (q2, .inl (gcA G 0, 401, .inl fun _ => 0))]) := by
  refine CN.of (own := "SaturdayKeep$Tokens") (L0 := [some (.ref h0)]) rfl rfl rfl rfl (Nat.le_of_ble_eq_true rfl) (fun C hl hmc hms hnm hrt hC => ?_)
  subst hl
  refine bj_aload_n (pc := 0) (i := 0) hC dX8_init_0 rfl rfl ?_
  refine bj_objInit (pc := 1) hC kw56 kw33 kw34 dX8_init_1 (by have := hC.rm; omega) (by have := hC.rm; omega) (Nat.le_of_ble_eq_true rfl) ?_
  refine bj_aload_n (pc := 4) (i := 0) hC dX8_init_4 rfl rfl ?_
  refine bj_sipush (pc := 5) (v := 401) hC dX8_init_5 sc401 ?_
  refine bj_newa (pc := 8) (atype := .int) (a0 := (401, .inl fun _ => 0)) hC 0 kw50 rfl rfl (fun _ h => by cases h) (fun _ => rfl) (by decide) (by decide) (by decide) (Nat.le_trans (by decide) hmc) (Nat.le_trans (by decide) hms) dX8_init_8 (fun q0 => ?_)
  refine bj_putF (pc := 10) hC hnm inX8 tyX8 tyX8_ok nmX8 0 rfl rfl 0 (by decide) kw57 rfl rfl rfl rfl rfl rfl (Nat.le_of_ble_eq_true rfl) dX8_init_10 (R' := [(h0, .inr (8, [.ref q0, .null, .null, .int 0, .int 0, .int 0])), (q0, .inl (gcA G 0, 401, .inl fun _ => 0))]) rfl ?_
  refine bj_aload_n (pc := 13) (i := 0) hC dX8_init_13 rfl rfl ?_
  refine bj_sipush (pc := 14) (v := 401) hC dX8_init_14 sc401 ?_
  refine bj_newa (pc := 17) (atype := .int) (a0 := (401, .inl fun _ => 0)) hC 0 kw50 rfl rfl (fun _ h => by cases h) (fun _ => rfl) (by decide) (by decide) (by decide) (Nat.le_trans (by decide) hmc) (Nat.le_trans (by decide) hms) dX8_init_17 (fun q1 => ?_)
  refine bj_putF (pc := 19) hC hnm inX8 tyX8 tyX8_ok nmX8 0 rfl rfl 1 (by decide) kw58 rfl rfl rfl rfl rfl rfl (Nat.le_of_ble_eq_true rfl) dX8_init_19 (R' := [(h0, .inr (8, [.ref q0, .ref q1, .null, .int 0, .int 0, .int 0])), (q0, .inl (gcA G 0, 401, .inl fun _ => 0)), (q1, .inl (gcA G 0, 401, .inl fun _ => 0))]) rfl ?_
  refine bj_aload_n (pc := 22) (i := 0) hC dX8_init_22 rfl rfl ?_
  refine bj_sipush (pc := 23) (v := 401) hC dX8_init_23 sc401 ?_
  refine bj_newa (pc := 26) (atype := .int) (a0 := (401, .inl fun _ => 0)) hC 0 kw50 rfl rfl (fun _ h => by cases h) (fun _ => rfl) (by decide) (by decide) (by decide) (Nat.le_trans (by decide) hmc) (Nat.le_trans (by decide) hms) dX8_init_26 (fun q2 => ?_)
  refine bj_putF (pc := 28) hC hnm inX8 tyX8 tyX8_ok nmX8 0 rfl rfl 2 (by decide) kw59 rfl rfl rfl rfl rfl rfl (Nat.le_of_ble_eq_true rfl) dX8_init_28 (R' := [(h0, .inr (8, [.ref q0, .ref q1, .ref q2, .int 0, .int 0, .int 0])), (q0, .inl (gcA G 0, 401, .inl fun _ => 0)), (q1, .inl (gcA G 0, 401, .inl fun _ => 0)), (q2, .inl (gcA G 0, 401, .inl fun _ => 0))]) rfl ?_
  exact bj_ret (pc := 31) hC hrt dX8_init_31 (⟨q0, q1, q2, rfl⟩)
theorem dX3_init_0 : decode cX3_init 0 = .ok (.aload_n 0, 1) := by decide +kernel
theorem dX3_init_1 : decode cX3_init 1 = .ok (.invokespecial 3, 3) := by decide +kernel
theorem dX3_init_4 : decode cX3_init 4 = .ok (.aload_n 0, 1) := by decide +kernel
theorem dX3_init_5 : decode cX3_init 5 = .ok (.aload_n 1, 1) := by decide +kernel
theorem dX3_init_6 : decode cX3_init 6 = .ok (.putfield 9, 3) := by decide +kernel
theorem dX3_init_9 : decode cX3_init 9 = .ok (.return_, 1) := by decide +kernel
set_option maxHeartbeats 4000000 in
set_option maxRecDepth 100000 in
theorem cn_X3 (G : GG) (l : Launch) (X : va_W) (h0 : Nat) (tk : Nat) : CN G l yX3_init (.code yX3_init cX3_init 2 none) 2 0 0 [.ref h0, .ref tk] (X ++ [(h0, .inr (3, [.null]))]) (fun ws' => ws' = X ++ [(h0, .inr (3, [.ref tk]))]) := by
  refine CN.of (own := "SaturdayKeep$HouseReader") (L0 := [some (.ref h0), some (.ref tk)]) rfl rfl rfl rfl (Nat.le_of_ble_eq_true rfl) (fun C hl hmc hms hnm hrt hC => ?_)
  subst hl
  refine bj_aload_n (pc := 0) (i := 0) hC dX3_init_0 rfl rfl ?_
  refine bj_objInit (pc := 1) hC kw84 kw33 kw34 dX3_init_1 (by have := hC.rm; omega) (by have := hC.rm; omega) (Nat.le_of_ble_eq_true rfl) ?_
  refine bj_aload_n (pc := 4) (i := 0) hC dX3_init_4 rfl rfl ?_
  refine bj_aload_n (pc := 5) (i := 1) hC dX3_init_5 rfl rfl ?_
  refine bj_putF (pc := 6) hC hnm inX3 tyX3 tyX3_ok nmX3 0 rfl rfl 0 (by decide) kw85 rfl rfl rfl rfl rfl rfl (Nat.le_of_ble_eq_true rfl) dX3_init_6 (R' := [(h0, .inr (3, [.ref tk]))]) rfl ?_
  exact bj_ret (pc := 9) hC hrt dX3_init_9 (rfl)
theorem dX5_init_0 : decode cX5_init 0 = .ok (.aload_n 0, 1) := by decide +kernel
theorem dX5_init_1 : decode cX5_init 1 = .ok (.invokespecial 3, 3) := by decide +kernel
theorem dX5_init_4 : decode cX5_init 4 = .ok (.aload_n 0, 1) := by decide +kernel
theorem dX5_init_5 : decode cX5_init 5 = .ok (.aload_n 1, 1) := by decide +kernel
theorem dX5_init_6 : decode cX5_init 6 = .ok (.putfield 9, 3) := by decide +kernel
theorem dX5_init_9 : decode cX5_init 9 = .ok (.aload_n 0, 1) := by decide +kernel
theorem dX5_init_10 : decode cX5_init 10 = .ok (.new 15, 3) := by decide +kernel
theorem dX5_init_13 : decode cX5_init 13 = .ok (.dup, 1) := by decide +kernel
theorem dX5_init_14 : decode cX5_init 14 = .ok (.invokespecial 17, 3) := by decide +kernel
theorem dX5_init_17 : decode cX5_init 17 = .ok (.putfield 18, 3) := by decide +kernel
theorem dX5_init_20 : decode cX5_init 20 = .ok (.return_, 1) := by decide +kernel
set_option maxHeartbeats 4000000 in
set_option maxRecDepth 100000 in
theorem cn_X5 (G : GG) (l : Launch) (X : va_W) (h0 : Nat) (tk : Nat) : CN G l yX5_init (.code yX5_init cX5_init 2 none) 4 3 437 [.ref h0, .ref tk] (X ++ [(h0, .inr (5, [.null, .null]))]) (fun ws' => ∃ q0 p2 k2 : Nat, ws' = X ++ [(h0, .inr (5, [.ref tk, .ref q0])), (q0, .inr (4, [.ref p2, .ref k2, .int 0, .int 0, .int (-1)])), (p2, .inl (gcA G 0, 400, .inl fun _ => 0)), (k2, .inl (gcA G 0, 32, .inl fun _ => 0))]) := by
  refine CN.of (own := "SaturdayKeep$LawReader") (L0 := [some (.ref h0), some (.ref tk)]) rfl rfl rfl rfl (Nat.le_of_ble_eq_true rfl) (fun C hl hmc hms hnm hrt hC => ?_)
  subst hl
  refine bj_aload_n (pc := 0) (i := 0) hC dX5_init_0 rfl rfl ?_
  refine bj_objInit (pc := 1) hC kw94 kw33 kw34 dX5_init_1 (by have := hC.rm; omega) (by have := hC.rm; omega) (Nat.le_of_ble_eq_true rfl) ?_
  refine bj_aload_n (pc := 4) (i := 0) hC dX5_init_4 rfl rfl ?_
  refine bj_aload_n (pc := 5) (i := 1) hC dX5_init_5 rfl rfl ?_
  refine bj_putF (pc := 6) hC hnm inX5 tyX5 tyX5_ok nmX5 0 rfl rfl 0 (by decide) kw120 rfl rfl rfl rfl rfl rfl (Nat.le_of_ble_eq_true rfl) dX5_init_6 (R' := [(h0, .inr (5, [.ref tk, .null]))]) rfl ?_
  refine bj_aload_n (pc := 9) (i := 0) hC dX5_init_9 rfl rfl ?_
  refine bj_new (pc := 10) (ci := 4) (fs := [.null, .null, .int 0, .int 0, .int 0]) hC inX4 tyX4 tyX4_ok kw95 kw96 kw6 rfl dfX4 (Nat.le_trans (by decide) hmc) (Nat.le_trans (by decide) hms) dX5_init_10 (fun q0 => ?_)
  refine bj_dup (pc := 13) hC dX5_init_13 ?_
  refine bj_callN (pc := 14) (As := []) (n := 0) (lv := 2) hC kw97 kw99 kw6 kw98 rfl ⟨by decide, by decide, by decide +kernel⟩ (by decide) (by decide) (by rw [← List.append_assoc]; exact cn_X4 G C.2.1 (X ++ [(h0, .inr (5, [.ref tk, .null]))]) q0 ) rfl (Nat.le_of_ble_eq_true rfl) (Nat.le_trans (by decide) hmc) (Nat.le_trans (by decide) hms) dX5_init_14 (fun ws1 hw1 => ?_)
  obtain ⟨p2, k2, rfl⟩ := hw1
  refine ⟨[(h0, .inr (5, [.ref tk, .null])), (q0, .inr (4, [.ref p2, .ref k2, .int 0, .int 0, .int (-1)])), (p2, .inl (gcA G 0, 400, .inl fun _ => 0)), (k2, .inl (gcA G 0, 32, .inl fun _ => 0))], by first | (rw [List.append_assoc]; done) | (rw [List.append_assoc]; rfl), ?_⟩
  refine bj_putF (pc := 17) hC hnm inX5 tyX5 tyX5_ok nmX5 0 rfl rfl 1 (by decide) kw121 rfl rfl rfl rfl rfl rfl (Nat.le_of_ble_eq_true rfl) dX5_init_17 (R' := [(h0, .inr (5, [.ref tk, .ref q0])), (q0, .inr (4, [.ref p2, .ref k2, .int 0, .int 0, .int (-1)])), (p2, .inl (gcA G 0, 400, .inl fun _ => 0)), (k2, .inl (gcA G 0, 32, .inl fun _ => 0))]) rfl ?_
  exact bj_ret (pc := 20) hC hrt dX5_init_20 (⟨q0, p2, k2, rfl⟩)
def hsL (G : GG) (h0 : Nat) (a : Nat → Nat) : va_W := [(h0, .inr (2, [.ref (a 1), .ref (a 5), .ref (a 7), .ref (a 10), .ref (a 11), .int 0, .int 3, .int 0, .int 0, .int 1, .int 100, .int 0, .int 0, .int 0, .int 0, .int 1, .int 0])), ((a 1), .inr (1, [.ref (a 2), .ref (a 3), .ref (a 4), .int 0, .int 0, .int 0])), ((a 2), .inl (gcA G 0, 8, .inl fun _ => 0)), ((a 3), .inl (gcA G 0, 8, .inl fun _ => 0)), ((a 4), .inl (gcA G 0, 8, .inl fun _ => 0)), ((a 5), .inr (0, [.ref (a 6), .int 0, .int 0])), ((a 6), .inl (gcA G 0, 240, .inl fun _ => 0)), ((a 7), .inr (4, [.ref (a 8), .ref (a 9), .int 0, .int 0, .int (-1)])), ((a 8), .inl (gcA G 0, 400, .inl fun _ => 0)), ((a 9), .inl (gcA G 0, 32, .inl fun _ => 0)), ((a 10), .inl (gcA G 0, 8, .inl fun _ => 0)), ((a 11), .inl (gcA G 0, 9, .inl fun _ => 0))]
theorem dX2_init_0 : decode cX2_init 0 = .ok (.aload_n 0, 1) := by decide +kernel
theorem dX2_init_1 : decode cX2_init 1 = .ok (.invokespecial 3, 3) := by decide +kernel
theorem dX2_init_4 : decode cX2_init 4 = .ok (.aload_n 0, 1) := by decide +kernel
theorem dX2_init_5 : decode cX2_init 5 = .ok (.new 9, 3) := by decide +kernel
theorem dX2_init_8 : decode cX2_init 8 = .ok (.dup, 1) := by decide +kernel
theorem dX2_init_9 : decode cX2_init 9 = .ok (.invokespecial 11, 3) := by decide +kernel
theorem dX2_init_12 : decode cX2_init 12 = .ok (.putfield 12, 3) := by decide +kernel
theorem dX2_init_15 : decode cX2_init 15 = .ok (.aload_n 0, 1) := by decide +kernel
theorem dX2_init_16 : decode cX2_init 16 = .ok (.new 18, 3) := by decide +kernel
theorem dX2_init_19 : decode cX2_init 19 = .ok (.dup, 1) := by decide +kernel
theorem dX2_init_20 : decode cX2_init 20 = .ok (.invokespecial 20, 3) := by decide +kernel
theorem dX2_init_23 : decode cX2_init 23 = .ok (.putfield 21, 3) := by decide +kernel
theorem dX2_init_26 : decode cX2_init 26 = .ok (.aload_n 0, 1) := by decide +kernel
theorem dX2_init_27 : decode cX2_init 27 = .ok (.new 25, 3) := by decide +kernel
theorem dX2_init_30 : decode cX2_init 30 = .ok (.dup, 1) := by decide +kernel
theorem dX2_init_31 : decode cX2_init 31 = .ok (.invokespecial 27, 3) := by decide +kernel
theorem dX2_init_34 : decode cX2_init 34 = .ok (.putfield 28, 3) := by decide +kernel
theorem dX2_init_37 : decode cX2_init 37 = .ok (.aload_n 0, 1) := by decide +kernel
theorem dX2_init_38 : decode cX2_init 38 = .ok (.bipush 8, 2) := by decide +kernel
theorem dX2_init_40 : decode cX2_init 40 = .ok (.newarray .int, 2) := by decide +kernel
theorem dX2_init_42 : decode cX2_init 42 = .ok (.putfield 32, 3) := by decide +kernel
theorem dX2_init_45 : decode cX2_init 45 = .ok (.aload_n 0, 1) := by decide +kernel
theorem dX2_init_46 : decode cX2_init 46 = .ok (.bipush 9, 2) := by decide +kernel
theorem dX2_init_48 : decode cX2_init 48 = .ok (.newarray .int, 2) := by decide +kernel
theorem dX2_init_50 : decode cX2_init 50 = .ok (.putfield 36, 3) := by decide +kernel
theorem dX2_init_53 : decode cX2_init 53 = .ok (.aload_n 0, 1) := by decide +kernel
theorem dX2_init_54 : decode cX2_init 54 = .ok (.iconst 0, 1) := by decide +kernel
theorem dX2_init_55 : decode cX2_init 55 = .ok (.putfield 39, 3) := by decide +kernel
theorem dX2_init_58 : decode cX2_init 58 = .ok (.aload_n 0, 1) := by decide +kernel
theorem dX2_init_59 : decode cX2_init 59 = .ok (.iconst 3, 1) := by decide +kernel
theorem dX2_init_60 : decode cX2_init 60 = .ok (.putfield 43, 3) := by decide +kernel
theorem dX2_init_63 : decode cX2_init 63 = .ok (.aload_n 0, 1) := by decide +kernel
theorem dX2_init_64 : decode cX2_init 64 = .ok (.iconst 1, 1) := by decide +kernel
theorem dX2_init_65 : decode cX2_init 65 = .ok (.putfield 46, 3) := by decide +kernel
theorem dX2_init_68 : decode cX2_init 68 = .ok (.aload_n 0, 1) := by decide +kernel
theorem dX2_init_69 : decode cX2_init 69 = .ok (.bipush 100, 2) := by decide +kernel
theorem dX2_init_71 : decode cX2_init 71 = .ok (.putfield 49, 3) := by decide +kernel
theorem dX2_init_74 : decode cX2_init 74 = .ok (.aload_n 0, 1) := by decide +kernel
theorem dX2_init_75 : decode cX2_init 75 = .ok (.iconst 1, 1) := by decide +kernel
theorem dX2_init_76 : decode cX2_init 76 = .ok (.putfield 52, 3) := by decide +kernel
theorem dX2_init_79 : decode cX2_init 79 = .ok (.return_, 1) := by decide +kernel
set_option maxHeartbeats 4000000 in
set_option maxRecDepth 100000 in
theorem cn_X2 (G : GG) (l : Launch) (X : va_W) (h0 : Nat) : CN G l yX2_init (.code yX2_init cX2_init 1 none) 4 11 727 [.ref h0] (X ++ [(h0, .inr (2, [.null, .null, .null, .null, .null, .int 0, .int 0, .int 0, .int 0, .int 0, .int 0, .int 0, .int 0, .int 0, .int 0, .int 0, .int 0]))]) (fun ws' => ∃ a : Nat → Nat, ws' = X ++ hsL G h0 a) := by
  refine CN.of (own := "SaturdayKeep$House") (L0 := [some (.ref h0)]) rfl rfl rfl rfl (Nat.le_of_ble_eq_true rfl) (fun C hl hmc hms hnm hrt hC => ?_)
  subst hl
  refine bj_aload_n (pc := 0) (i := 0) hC dX2_init_0 rfl rfl ?_
  refine bj_objInit (pc := 1) hC kw133 kw33 kw34 dX2_init_1 (by have := hC.rm; omega) (by have := hC.rm; omega) (Nat.le_of_ble_eq_true rfl) ?_
  refine bj_aload_n (pc := 4) (i := 0) hC dX2_init_4 rfl rfl ?_
  refine bj_new (pc := 5) (ci := 1) (fs := [.null, .null, .null, .int 0, .int 0, .int 0]) hC inX1 tyX1 tyX1_ok kw134 kw135 kw8 rfl dfX1 (Nat.le_trans (by decide) hmc) (Nat.le_trans (by decide) hms) dX2_init_5 (fun q0 => ?_)
  refine bj_dup (pc := 8) hC dX2_init_8 ?_
  refine bj_callN (pc := 9) (As := []) (n := 0) (lv := 2) hC kw136 kw138 kw8 kw137 rfl ⟨by decide, by decide, by decide +kernel⟩ (by decide) (by decide) (by rw [← List.append_assoc]; exact cn_X1 G C.2.1 (X ++ [(h0, .inr (2, [.null, .null, .null, .null, .null, .int 0, .int 0, .int 0, .int 0, .int 0, .int 0, .int 0, .int 0, .int 0, .int 0, .int 0, .int 0]))]) q0 ) rfl (Nat.le_of_ble_eq_true rfl) (Nat.le_trans (by decide) hmc) (Nat.le_trans (by decide) hms) dX2_init_9 (fun ws1 hw1 => ?_)
  obtain ⟨r2, w2, b2, rfl⟩ := hw1
  refine ⟨[(h0, .inr (2, [.null, .null, .null, .null, .null, .int 0, .int 0, .int 0, .int 0, .int 0, .int 0, .int 0, .int 0, .int 0, .int 0, .int 0, .int 0])), (q0, .inr (1, [.ref r2, .ref w2, .ref b2, .int 0, .int 0, .int 0])), (r2, .inl (gcA G 0, 8, .inl fun _ => 0)), (w2, .inl (gcA G 0, 8, .inl fun _ => 0)), (b2, .inl (gcA G 0, 8, .inl fun _ => 0))], by first | (rw [List.append_assoc]; done) | (rw [List.append_assoc]; rfl), ?_⟩
  refine bj_putF (pc := 12) hC hnm inX2 tyX2 tyX2_ok nmX2 0 rfl rfl 0 (by decide) kw184 rfl rfl rfl rfl rfl rfl (Nat.le_of_ble_eq_true rfl) dX2_init_12 (R' := [(h0, .inr (2, [.ref q0, .null, .null, .null, .null, .int 0, .int 0, .int 0, .int 0, .int 0, .int 0, .int 0, .int 0, .int 0, .int 0, .int 0, .int 0])), (q0, .inr (1, [.ref r2, .ref w2, .ref b2, .int 0, .int 0, .int 0])), (r2, .inl (gcA G 0, 8, .inl fun _ => 0)), (w2, .inl (gcA G 0, 8, .inl fun _ => 0)), (b2, .inl (gcA G 0, 8, .inl fun _ => 0))]) rfl ?_
  refine bj_aload_n (pc := 15) (i := 0) hC dX2_init_15 rfl rfl ?_
  refine bj_new (pc := 16) (ci := 0) (fs := [.null, .int 0, .int 0]) hC inX0 tyX0 tyX0_ok kw165 kw166 kw9 rfl dfX0 (Nat.le_trans (by decide) hmc) (Nat.le_trans (by decide) hms) dX2_init_16 (fun q2 => ?_)
  refine bj_dup (pc := 19) hC dX2_init_19 ?_
  refine bj_callN (pc := 20) (As := []) (n := 0) (lv := 2) hC kw167 kw169 kw9 kw168 rfl ⟨by decide, by decide, by decide +kernel⟩ (by decide) (by decide) (by rw [← List.append_assoc]; exact cn_X0 G C.2.1 (X ++ [(h0, .inr (2, [.ref q0, .null, .null, .null, .null, .int 0, .int 0, .int 0, .int 0, .int 0, .int 0, .int 0, .int 0, .int 0, .int 0, .int 0, .int 0])), (q0, .inr (1, [.ref r2, .ref w2, .ref b2, .int 0, .int 0, .int 0])), (r2, .inl (gcA G 0, 8, .inl fun _ => 0)), (w2, .inl (gcA G 0, 8, .inl fun _ => 0)), (b2, .inl (gcA G 0, 8, .inl fun _ => 0))]) q2 ) rfl (Nat.le_of_ble_eq_true rfl) (Nat.le_trans (by decide) hmc) (Nat.le_trans (by decide) hms) dX2_init_20 (fun ws1 hw1 => ?_)
  obtain ⟨c4, rfl⟩ := hw1
  refine ⟨[(h0, .inr (2, [.ref q0, .null, .null, .null, .null, .int 0, .int 0, .int 0, .int 0, .int 0, .int 0, .int 0, .int 0, .int 0, .int 0, .int 0, .int 0])), (q0, .inr (1, [.ref r2, .ref w2, .ref b2, .int 0, .int 0, .int 0])), (r2, .inl (gcA G 0, 8, .inl fun _ => 0)), (w2, .inl (gcA G 0, 8, .inl fun _ => 0)), (b2, .inl (gcA G 0, 8, .inl fun _ => 0)), (q2, .inr (0, [.ref c4, .int 0, .int 0])), (c4, .inl (gcA G 0, 240, .inl fun _ => 0))], by first | (rw [List.append_assoc]; done) | (rw [List.append_assoc]; rfl), ?_⟩
  refine bj_putF (pc := 23) hC hnm inX2 tyX2 tyX2_ok nmX2 0 rfl rfl 1 (by decide) kw187 rfl rfl rfl rfl rfl rfl (Nat.le_of_ble_eq_true rfl) dX2_init_23 (R' := [(h0, .inr (2, [.ref q0, .ref q2, .null, .null, .null, .int 0, .int 0, .int 0, .int 0, .int 0, .int 0, .int 0, .int 0, .int 0, .int 0, .int 0, .int 0])), (q0, .inr (1, [.ref r2, .ref w2, .ref b2, .int 0, .int 0, .int 0])), (r2, .inl (gcA G 0, 8, .inl fun _ => 0)), (w2, .inl (gcA G 0, 8, .inl fun _ => 0)), (b2, .inl (gcA G 0, 8, .inl fun _ => 0)), (q2, .inr (0, [.ref c4, .int 0, .int 0])), (c4, .inl (gcA G 0, 240, .inl fun _ => 0))]) rfl ?_
  refine bj_aload_n (pc := 26) (i := 0) hC dX2_init_26 rfl rfl ?_
  refine bj_new (pc := 27) (ci := 4) (fs := [.null, .null, .int 0, .int 0, .int 0]) hC inX4 tyX4 tyX4_ok kw182 kw96 kw6 rfl dfX4 (Nat.le_trans (by decide) hmc) (Nat.le_trans (by decide) hms) dX2_init_27 (fun q4 => ?_)
  refine bj_dup (pc := 30) hC dX2_init_30 ?_
  refine bj_callN (pc := 31) (As := []) (n := 0) (lv := 2) hC kw183 kw99 kw6 kw98 rfl ⟨by decide, by decide, by decide +kernel⟩ (by decide) (by decide) (by rw [← List.append_assoc]; exact cn_X4 G C.2.1 (X ++ [(h0, .inr (2, [.ref q0, .ref q2, .null, .null, .null, .int 0, .int 0, .int 0, .int 0, .int 0, .int 0, .int 0, .int 0, .int 0, .int 0, .int 0, .int 0])), (q0, .inr (1, [.ref r2, .ref w2, .ref b2, .int 0, .int 0, .int 0])), (r2, .inl (gcA G 0, 8, .inl fun _ => 0)), (w2, .inl (gcA G 0, 8, .inl fun _ => 0)), (b2, .inl (gcA G 0, 8, .inl fun _ => 0)), (q2, .inr (0, [.ref c4, .int 0, .int 0])), (c4, .inl (gcA G 0, 240, .inl fun _ => 0))]) q4 ) rfl (Nat.le_of_ble_eq_true rfl) (Nat.le_trans (by decide) hmc) (Nat.le_trans (by decide) hms) dX2_init_31 (fun ws1 hw1 => ?_)
  obtain ⟨p6, k6, rfl⟩ := hw1
  refine ⟨[(h0, .inr (2, [.ref q0, .ref q2, .null, .null, .null, .int 0, .int 0, .int 0, .int 0, .int 0, .int 0, .int 0, .int 0, .int 0, .int 0, .int 0, .int 0])), (q0, .inr (1, [.ref r2, .ref w2, .ref b2, .int 0, .int 0, .int 0])), (r2, .inl (gcA G 0, 8, .inl fun _ => 0)), (w2, .inl (gcA G 0, 8, .inl fun _ => 0)), (b2, .inl (gcA G 0, 8, .inl fun _ => 0)), (q2, .inr (0, [.ref c4, .int 0, .int 0])), (c4, .inl (gcA G 0, 240, .inl fun _ => 0)), (q4, .inr (4, [.ref p6, .ref k6, .int 0, .int 0, .int (-1)])), (p6, .inl (gcA G 0, 400, .inl fun _ => 0)), (k6, .inl (gcA G 0, 32, .inl fun _ => 0))], by first | (rw [List.append_assoc]; done) | (rw [List.append_assoc]; rfl), ?_⟩
  refine bj_putF (pc := 34) hC hnm inX2 tyX2 tyX2_ok nmX2 0 rfl rfl 2 (by decide) kw189 rfl rfl rfl rfl rfl rfl (Nat.le_of_ble_eq_true rfl) dX2_init_34 (R' := [(h0, .inr (2, [.ref q0, .ref q2, .ref q4, .null, .null, .int 0, .int 0, .int 0, .int 0, .int 0, .int 0, .int 0, .int 0, .int 0, .int 0, .int 0, .int 0])), (q0, .inr (1, [.ref r2, .ref w2, .ref b2, .int 0, .int 0, .int 0])), (r2, .inl (gcA G 0, 8, .inl fun _ => 0)), (w2, .inl (gcA G 0, 8, .inl fun _ => 0)), (b2, .inl (gcA G 0, 8, .inl fun _ => 0)), (q2, .inr (0, [.ref c4, .int 0, .int 0])), (c4, .inl (gcA G 0, 240, .inl fun _ => 0)), (q4, .inr (4, [.ref p6, .ref k6, .int 0, .int 0, .int (-1)])), (p6, .inl (gcA G 0, 400, .inl fun _ => 0)), (k6, .inl (gcA G 0, 32, .inl fun _ => 0))]) rfl ?_
  refine bj_aload_n (pc := 37) (i := 0) hC dX2_init_37 rfl rfl ?_
  refine bj_bipush (pc := 38) (v := 8) hC dX2_init_38 bc8 ?_
  refine bj_newa (pc := 40) (atype := .int) (a0 := (8, .inl fun _ => 0)) hC 0 kw50 rfl rfl (fun _ h => by cases h) (fun _ => rfl) (by decide) (by decide) (by decide) (Nat.le_trans (by decide) hmc) (Nat.le_trans (by decide) hms) dX2_init_40 (fun q6 => ?_)
  refine bj_putF (pc := 42) hC hnm inX2 tyX2 tyX2_ok nmX2 0 rfl rfl 3 (by decide) kw191 rfl rfl rfl rfl rfl rfl (Nat.le_of_ble_eq_true rfl) dX2_init_42 (R' := [(h0, .inr (2, [.ref q0, .ref q2, .ref q4, .ref q6, .null, .int 0, .int 0, .int 0, .int 0, .int 0, .int 0, .int 0, .int 0, .int 0, .int 0, .int 0, .int 0])), (q0, .inr (1, [.ref r2, .ref w2, .ref b2, .int 0, .int 0, .int 0])), (r2, .inl (gcA G 0, 8, .inl fun _ => 0)), (w2, .inl (gcA G 0, 8, .inl fun _ => 0)), (b2, .inl (gcA G 0, 8, .inl fun _ => 0)), (q2, .inr (0, [.ref c4, .int 0, .int 0])), (c4, .inl (gcA G 0, 240, .inl fun _ => 0)), (q4, .inr (4, [.ref p6, .ref k6, .int 0, .int 0, .int (-1)])), (p6, .inl (gcA G 0, 400, .inl fun _ => 0)), (k6, .inl (gcA G 0, 32, .inl fun _ => 0)), (q6, .inl (gcA G 0, 8, .inl fun _ => 0))]) rfl ?_
  refine bj_aload_n (pc := 45) (i := 0) hC dX2_init_45 rfl rfl ?_
  refine bj_bipush (pc := 46) (v := 9) hC dX2_init_46 bc9 ?_
  refine bj_newa (pc := 48) (atype := .int) (a0 := (9, .inl fun _ => 0)) hC 0 kw50 rfl rfl (fun _ h => by cases h) (fun _ => rfl) (by decide) (by decide) (by decide) (Nat.le_trans (by decide) hmc) (Nat.le_trans (by decide) hms) dX2_init_48 (fun q7 => ?_)
  refine bj_putF (pc := 50) hC hnm inX2 tyX2 tyX2_ok nmX2 0 rfl rfl 4 (by decide) kw192 rfl rfl rfl rfl rfl rfl (Nat.le_of_ble_eq_true rfl) dX2_init_50 (R' := [(h0, .inr (2, [.ref q0, .ref q2, .ref q4, .ref q6, .ref q7, .int 0, .int 0, .int 0, .int 0, .int 0, .int 0, .int 0, .int 0, .int 0, .int 0, .int 0, .int 0])), (q0, .inr (1, [.ref r2, .ref w2, .ref b2, .int 0, .int 0, .int 0])), (r2, .inl (gcA G 0, 8, .inl fun _ => 0)), (w2, .inl (gcA G 0, 8, .inl fun _ => 0)), (b2, .inl (gcA G 0, 8, .inl fun _ => 0)), (q2, .inr (0, [.ref c4, .int 0, .int 0])), (c4, .inl (gcA G 0, 240, .inl fun _ => 0)), (q4, .inr (4, [.ref p6, .ref k6, .int 0, .int 0, .int (-1)])), (p6, .inl (gcA G 0, 400, .inl fun _ => 0)), (k6, .inl (gcA G 0, 32, .inl fun _ => 0)), (q6, .inl (gcA G 0, 8, .inl fun _ => 0)), (q7, .inl (gcA G 0, 9, .inl fun _ => 0))]) rfl ?_
  refine bj_aload_n (pc := 53) (i := 0) hC dX2_init_53 rfl rfl ?_
  refine bj_iconst (pc := 54) (v := 0) hC dX2_init_54 ic0 ?_
  refine bj_put (pc := 55) hC inX2 tyX2 tyX2_ok nmX2 0 rfl rfl 5 (by decide) kw193 rfl rfl rfl rfl rfl (Nat.le_of_ble_eq_true rfl) dX2_init_55 (R' := [(h0, .inr (2, [.ref q0, .ref q2, .ref q4, .ref q6, .ref q7, .int 0, .int 0, .int 0, .int 0, .int 0, .int 0, .int 0, .int 0, .int 0, .int 0, .int 0, .int 0])), (q0, .inr (1, [.ref r2, .ref w2, .ref b2, .int 0, .int 0, .int 0])), (r2, .inl (gcA G 0, 8, .inl fun _ => 0)), (w2, .inl (gcA G 0, 8, .inl fun _ => 0)), (b2, .inl (gcA G 0, 8, .inl fun _ => 0)), (q2, .inr (0, [.ref c4, .int 0, .int 0])), (c4, .inl (gcA G 0, 240, .inl fun _ => 0)), (q4, .inr (4, [.ref p6, .ref k6, .int 0, .int 0, .int (-1)])), (p6, .inl (gcA G 0, 400, .inl fun _ => 0)), (k6, .inl (gcA G 0, 32, .inl fun _ => 0)), (q6, .inl (gcA G 0, 8, .inl fun _ => 0)), (q7, .inl (gcA G 0, 9, .inl fun _ => 0))]) rfl ?_
  refine bj_aload_n (pc := 58) (i := 0) hC dX2_init_58 rfl rfl ?_
  refine bj_iconst (pc := 59) (v := 3) hC dX2_init_59 ic3 ?_
  refine bj_put (pc := 60) hC inX2 tyX2 tyX2_ok nmX2 0 rfl rfl 6 (by decide) kw194 rfl rfl rfl rfl rfl (Nat.le_of_ble_eq_true rfl) dX2_init_60 (R' := [(h0, .inr (2, [.ref q0, .ref q2, .ref q4, .ref q6, .ref q7, .int 0, .int 3, .int 0, .int 0, .int 0, .int 0, .int 0, .int 0, .int 0, .int 0, .int 0, .int 0])), (q0, .inr (1, [.ref r2, .ref w2, .ref b2, .int 0, .int 0, .int 0])), (r2, .inl (gcA G 0, 8, .inl fun _ => 0)), (w2, .inl (gcA G 0, 8, .inl fun _ => 0)), (b2, .inl (gcA G 0, 8, .inl fun _ => 0)), (q2, .inr (0, [.ref c4, .int 0, .int 0])), (c4, .inl (gcA G 0, 240, .inl fun _ => 0)), (q4, .inr (4, [.ref p6, .ref k6, .int 0, .int 0, .int (-1)])), (p6, .inl (gcA G 0, 400, .inl fun _ => 0)), (k6, .inl (gcA G 0, 32, .inl fun _ => 0)), (q6, .inl (gcA G 0, 8, .inl fun _ => 0)), (q7, .inl (gcA G 0, 9, .inl fun _ => 0))]) rfl ?_
  refine bj_aload_n (pc := 63) (i := 0) hC dX2_init_63 rfl rfl ?_
  refine bj_iconst (pc := 64) (v := 1) hC dX2_init_64 ic1 ?_
  refine bj_put (pc := 65) hC inX2 tyX2 tyX2_ok nmX2 0 rfl rfl 9 (by decide) kw201 rfl rfl rfl rfl rfl (Nat.le_of_ble_eq_true rfl) dX2_init_65 (R' := [(h0, .inr (2, [.ref q0, .ref q2, .ref q4, .ref q6, .ref q7, .int 0, .int 3, .int 0, .int 0, .int 1, .int 0, .int 0, .int 0, .int 0, .int 0, .int 0, .int 0])), (q0, .inr (1, [.ref r2, .ref w2, .ref b2, .int 0, .int 0, .int 0])), (r2, .inl (gcA G 0, 8, .inl fun _ => 0)), (w2, .inl (gcA G 0, 8, .inl fun _ => 0)), (b2, .inl (gcA G 0, 8, .inl fun _ => 0)), (q2, .inr (0, [.ref c4, .int 0, .int 0])), (c4, .inl (gcA G 0, 240, .inl fun _ => 0)), (q4, .inr (4, [.ref p6, .ref k6, .int 0, .int 0, .int (-1)])), (p6, .inl (gcA G 0, 400, .inl fun _ => 0)), (k6, .inl (gcA G 0, 32, .inl fun _ => 0)), (q6, .inl (gcA G 0, 8, .inl fun _ => 0)), (q7, .inl (gcA G 0, 9, .inl fun _ => 0))]) rfl ?_
  refine bj_aload_n (pc := 68) (i := 0) hC dX2_init_68 rfl rfl ?_
  refine bj_bipush (pc := 69) (v := 100) hC dX2_init_69 bc100 ?_
  refine bj_put (pc := 71) hC inX2 tyX2 tyX2_ok nmX2 0 rfl rfl 10 (by decide) kw204 rfl rfl rfl rfl rfl (Nat.le_of_ble_eq_true rfl) dX2_init_71 (R' := [(h0, .inr (2, [.ref q0, .ref q2, .ref q4, .ref q6, .ref q7, .int 0, .int 3, .int 0, .int 0, .int 1, .int 100, .int 0, .int 0, .int 0, .int 0, .int 0, .int 0])), (q0, .inr (1, [.ref r2, .ref w2, .ref b2, .int 0, .int 0, .int 0])), (r2, .inl (gcA G 0, 8, .inl fun _ => 0)), (w2, .inl (gcA G 0, 8, .inl fun _ => 0)), (b2, .inl (gcA G 0, 8, .inl fun _ => 0)), (q2, .inr (0, [.ref c4, .int 0, .int 0])), (c4, .inl (gcA G 0, 240, .inl fun _ => 0)), (q4, .inr (4, [.ref p6, .ref k6, .int 0, .int 0, .int (-1)])), (p6, .inl (gcA G 0, 400, .inl fun _ => 0)), (k6, .inl (gcA G 0, 32, .inl fun _ => 0)), (q6, .inl (gcA G 0, 8, .inl fun _ => 0)), (q7, .inl (gcA G 0, 9, .inl fun _ => 0))]) rfl ?_
  refine bj_aload_n (pc := 74) (i := 0) hC dX2_init_74 rfl rfl ?_
  refine bj_iconst (pc := 75) (v := 1) hC dX2_init_75 ic1 ?_
  refine bj_put (pc := 76) hC inX2 tyX2 tyX2_ok nmX2 0 rfl rfl 15 (by decide) kw217 rfl rfl rfl rfl rfl (Nat.le_of_ble_eq_true rfl) dX2_init_76 (R' := [(h0, .inr (2, [.ref q0, .ref q2, .ref q4, .ref q6, .ref q7, .int 0, .int 3, .int 0, .int 0, .int 1, .int 100, .int 0, .int 0, .int 0, .int 0, .int 1, .int 0])), (q0, .inr (1, [.ref r2, .ref w2, .ref b2, .int 0, .int 0, .int 0])), (r2, .inl (gcA G 0, 8, .inl fun _ => 0)), (w2, .inl (gcA G 0, 8, .inl fun _ => 0)), (b2, .inl (gcA G 0, 8, .inl fun _ => 0)), (q2, .inr (0, [.ref c4, .int 0, .int 0])), (c4, .inl (gcA G 0, 240, .inl fun _ => 0)), (q4, .inr (4, [.ref p6, .ref k6, .int 0, .int 0, .int (-1)])), (p6, .inl (gcA G 0, 400, .inl fun _ => 0)), (k6, .inl (gcA G 0, 32, .inl fun _ => 0)), (q6, .inl (gcA G 0, 8, .inl fun _ => 0)), (q7, .inl (gcA G 0, 9, .inl fun _ => 0))]) rfl ?_
  exact bj_ret (pc := 79) hC hrt dX2_init_79 (⟨fun j => [h0, q0, r2, w2, b2, q2, c4, q4, p6, k6, q6, q7].getD j 0, rfl⟩)
def psL (G : GG) (h0 b : Nat) (z : Nat → Nat) (y : Nat → Nat → Nat) : va_W := (((((((((((([(h0, .inr (6, [.ref b, .int 0, .int 0])), (b, .inl (gcA G 3, 12, .inr (.inr (.inr (.inr (va_up (va_up (va_up (va_up (va_up (va_up (va_up (va_up (va_up (va_up (va_up (va_up (fun _ => none) (Int32.toNatClampNeg 0) (some (z 0))) (Int32.toNatClampNeg 1) (some (z 1))) (Int32.toNatClampNeg 2) (some (z 2))) (Int32.toNatClampNeg 3) (some (z 3))) (Int32.toNatClampNeg 4) (some (z 4))) (Int32.toNatClampNeg 5) (some (z 5))) (Int32.toNatClampNeg 6) (some (z 6))) (Int32.toNatClampNeg 7) (some (z 7))) (Int32.toNatClampNeg 8) (some (z 8))) (Int32.toNatClampNeg 9) (some (z 9))) (Int32.toNatClampNeg 10) (some (z 10))) (Int32.toNatClampNeg 11) (some (z 11))))))))] ++ hsL G (z 0) (y 0)) ++ hsL G (z 1) (y 1)) ++ hsL G (z 2) (y 2)) ++ hsL G (z 3) (y 3)) ++ hsL G (z 4) (y 4)) ++ hsL G (z 5) (y 5)) ++ hsL G (z 6) (y 6)) ++ hsL G (z 7) (y 7)) ++ hsL G (z 8) (y 8)) ++ hsL G (z 9) (y 9)) ++ hsL G (z 10) (y 10)) ++ hsL G (z 11) (y 11))
theorem dX6_init_0 : decode cX6_init 0 = .ok (.aload_n 0, 1) := by decide +kernel
theorem dX6_init_1 : decode cX6_init 1 = .ok (.invokespecial 1, 3) := by decide +kernel
theorem dX6_init_4 : decode cX6_init 4 = .ok (.aload_n 0, 1) := by decide +kernel
theorem dX6_init_5 : decode cX6_init 5 = .ok (.bipush 12, 2) := by decide +kernel
theorem dX6_init_7 : decode cX6_init 7 = .ok (.anewarray 9, 3) := by decide +kernel
theorem dX6_init_10 : decode cX6_init 10 = .ok (.putfield 11, 3) := by decide +kernel
theorem dX6_init_13 : decode cX6_init 13 = .ok (.iconst 0, 1) := by decide +kernel
theorem dX6_init_14 : decode cX6_init 14 = .ok (.istore_n 1, 1) := by decide +kernel
theorem dX6_init_15 : decode cX6_init 15 = .ok (.iload_n 1, 1) := by decide +kernel
theorem dX6_init_16 : decode cX6_init 16 = .ok (.aload_n 0, 1) := by decide +kernel
theorem dX6_init_17 : decode cX6_init 17 = .ok (.getfield 11, 3) := by decide +kernel
theorem dX6_init_20 : decode cX6_init 20 = .ok (.arraylength, 1) := by decide +kernel
theorem dX6_init_21 : decode cX6_init 21 = .ok (.if_icmp .ge 22, 3) := by decide +kernel
theorem dX6_init_24 : decode cX6_init 24 = .ok (.aload_n 0, 1) := by decide +kernel
theorem dX6_init_25 : decode cX6_init 25 = .ok (.getfield 11, 3) := by decide +kernel
theorem dX6_init_28 : decode cX6_init 28 = .ok (.iload_n 1, 1) := by decide +kernel
theorem dX6_init_29 : decode cX6_init 29 = .ok (.new 9, 3) := by decide +kernel
theorem dX6_init_32 : decode cX6_init 32 = .ok (.dup, 1) := by decide +kernel
theorem dX6_init_33 : decode cX6_init 33 = .ok (.invokespecial 15, 3) := by decide +kernel
theorem dX6_init_36 : decode cX6_init 36 = .ok (.aastore, 1) := by decide +kernel
theorem dX6_init_37 : decode cX6_init 37 = .ok (.iinc 1 1, 3) := by decide +kernel
theorem dX6_init_40 : decode cX6_init 40 = .ok (.goto (-25), 3) := by decide +kernel
theorem dX6_init_43 : decode cX6_init 43 = .ok (.return_, 1) := by decide +kernel
set_option maxHeartbeats 4000000 in
set_option maxRecDepth 100000 in
theorem cn_X6 (G : GG) (l : Launch) (X : va_W) (h0 : Nat) : CN G l yX6_init (.code yX6_init cX6_init 2 none) 6 145 8940 [.ref h0] (X ++ [(h0, .inr (6, [.null, .int 0, .int 0]))]) (fun ws' => ∃ (b : Nat) (z : Nat → Nat) (y : Nat → Nat → Nat), ws' = X ++ psL G h0 b z y) := by
  refine CN.of (own := "SaturdayKeep$Past") (L0 := [some (.ref h0), none]) rfl rfl rfl rfl (Nat.le_of_ble_eq_true rfl) (fun C hl hmc hms hnm hrt hC => ?_)
  subst hl
  refine bj_aload_n (pc := 0) (i := 0) hC dX6_init_0 rfl rfl ?_
  refine bj_objInit (pc := 1) hC kw261 kw33 kw34 dX6_init_1 (by have := hC.rm; omega) (by have := hC.rm; omega) (Nat.le_of_ble_eq_true rfl) ?_
  refine bj_aload_n (pc := 4) (i := 0) hC dX6_init_4 rfl rfl ?_
  refine bj_bipush (pc := 5) (v := 12) hC dX6_init_5 bc12 ?_
  refine bj_newq (pc := 7) (N' := 12) hC kw262 (by decide) (by decide) (by decide) (Nat.le_trans (by decide) hmc) (Nat.le_trans (by decide) hms) dX6_init_7 (fun q0 => ?_)
  refine bj_putF (pc := 10) hC hnm inX6 tyX6 tyX6_ok nmX6 0 rfl rfl 0 (by decide) kw265 rfl rfl rfl rfl rfl rfl (Nat.le_of_ble_eq_true rfl) dX6_init_10 (R' := [(h0, .inr (6, [.ref q0, .int 0, .int 0])), (q0, .inl (gcA G 3, 12, .inr (.inr (.inr (.inr (fun _ => none))))))]) rfl ?_
  refine bj_iconst (pc := 13) (v := 0) hC dX6_init_13 ic0 ?_
  refine bj_istore_n (pc := 14) (i := 1) hC dX6_init_14 rfl rfl (by decide) ?_
  refine bj_iload_n (pc := 15) (i := 1) hC dX6_init_15 rfl rfl ?_
  refine bj_aload_n (pc := 16) (i := 0) hC dX6_init_16 rfl rfl ?_
  refine bj_get (pc := 17) hC inX6 0 rfl rfl 0 (by decide) kw265 rfl rfl dX6_init_17 ?_
  refine bj_alen (pc := 20) (v := 12) hC 1 3 rfl rfl (show Int32.ofNat 12 = 12 from by decide) dX6_init_20 ?_
  refine bj_icmp_ge (pc := 21) (tgt := 43) hC dX6_init_21 (by decide) (fun h => absurd h (by decide)) (fun _ => ?_)
  refine bj_aload_n (pc := 24) (i := 0) hC dX6_init_24 rfl rfl ?_
  refine bj_get (pc := 25) hC inX6 0 rfl rfl 0 (by decide) kw265 rfl rfl dX6_init_25 ?_
  refine bj_iload_n (pc := 28) (i := 1) hC dX6_init_28 rfl rfl ?_
  refine bj_new (pc := 29) (ci := 2) (fs := [.null, .null, .null, .null, .null, .int 0, .int 0, .int 0, .int 0, .int 0, .int 0, .int 0, .int 0, .int 0, .int 0, .int 0, .int 0]) hC inX2 tyX2 tyX2_ok kw262 kw129 kw7 rfl dfX2 (Nat.le_trans (by decide) hmc) (Nat.le_trans (by decide) hms) dX6_init_29 (fun q1 => ?_)
  refine bj_dup (pc := 32) hC dX6_init_32 ?_
  refine bj_callN (pc := 33) (As := []) (n := 0) (lv := 4) hC kw264 kw132 kw7 kw131 rfl ⟨by decide, by decide, by decide +kernel⟩ (by decide) (by decide) (by rw [← List.append_assoc]; exact cn_X2 G C.2.1 (X ++ [(h0, .inr (6, [.ref q0, .int 0, .int 0])), (q0, .inl (gcA G 3, 12, .inr (.inr (.inr (.inr (fun _ => none))))))]) q1 ) rfl (Nat.le_of_ble_eq_true rfl) (Nat.le_trans (by decide) hmc) (Nat.le_trans (by decide) hms) dX6_init_33 (fun ws1 hw1 => ?_)
  obtain ⟨a3, rfl⟩ := hw1
  refine ⟨([(h0, .inr (6, [.ref q0, .int 0, .int 0])), (q0, .inl (gcA G 3, 12, .inr (.inr (.inr (.inr (fun _ => none))))))] ++ hsL G q1 a3), by first | (rw [List.append_assoc]; done) | (rw [List.append_assoc]; rfl), ?_⟩
  refine bj_astq (pc := 36) hC 1 2 rfl rfl (vp_in_iff.mpr (by decide)) dX6_init_36 (R' := ([(h0, .inr (6, [.ref q0, .int 0, .int 0])), (q0, .inl (gcA G 3, 12, .inr (.inr (.inr (.inr (va_up (fun _ => none) (Int32.toNatClampNeg 0) (some q1)))))))] ++ hsL G q1 a3)) rfl ?_
  refine bj_iinc (pc := 37) (v := 1) hC dX6_init_37 rfl (by decide) rfl (by decide) ?_
  refine bj_goto (pc := 40) (tgt := 15) hC dX6_init_40 (by decide) ?_
  refine bj_iload_n (pc := 15) (i := 1) hC dX6_init_15 rfl rfl ?_
  refine bj_aload_n (pc := 16) (i := 0) hC dX6_init_16 rfl rfl ?_
  refine bj_get (pc := 17) hC inX6 0 rfl rfl 0 (by decide) kw265 rfl rfl dX6_init_17 ?_
  refine bj_alen (pc := 20) (v := 12) hC 1 3 rfl rfl (show Int32.ofNat 12 = 12 from by decide) dX6_init_20 ?_
  refine bj_icmp_ge (pc := 21) (tgt := 43) hC dX6_init_21 (by decide) (fun h => absurd h (by decide)) (fun _ => ?_)
  refine bj_aload_n (pc := 24) (i := 0) hC dX6_init_24 rfl rfl ?_
  refine bj_get (pc := 25) hC inX6 0 rfl rfl 0 (by decide) kw265 rfl rfl dX6_init_25 ?_
  refine bj_iload_n (pc := 28) (i := 1) hC dX6_init_28 rfl rfl ?_
  refine bj_new (pc := 29) (ci := 2) (fs := [.null, .null, .null, .null, .null, .int 0, .int 0, .int 0, .int 0, .int 0, .int 0, .int 0, .int 0, .int 0, .int 0, .int 0, .int 0]) hC inX2 tyX2 tyX2_ok kw262 kw129 kw7 rfl dfX2 (Nat.le_trans (by decide) hmc) (Nat.le_trans (by decide) hms) dX6_init_29 (fun q3 => ?_)
  refine bj_dup (pc := 32) hC dX6_init_32 ?_
  refine bj_callN (pc := 33) (As := []) (n := 0) (lv := 4) hC kw264 kw132 kw7 kw131 rfl ⟨by decide, by decide, by decide +kernel⟩ (by decide) (by decide) (by rw [← List.append_assoc]; exact cn_X2 G C.2.1 (X ++ ([(h0, .inr (6, [.ref q0, .int 0, .int 0])), (q0, .inl (gcA G 3, 12, .inr (.inr (.inr (.inr (va_up (fun _ => none) (Int32.toNatClampNeg 0) (some q1)))))))] ++ hsL G q1 a3)) q3 ) rfl (Nat.le_of_ble_eq_true rfl) (Nat.le_trans (by decide) hmc) (Nat.le_trans (by decide) hms) dX6_init_33 (fun ws1 hw1 => ?_)
  obtain ⟨a5, rfl⟩ := hw1
  refine ⟨(([(h0, .inr (6, [.ref q0, .int 0, .int 0])), (q0, .inl (gcA G 3, 12, .inr (.inr (.inr (.inr (va_up (fun _ => none) (Int32.toNatClampNeg 0) (some q1)))))))] ++ hsL G q1 a3) ++ hsL G q3 a5), by first | (rw [List.append_assoc]; done) | (rw [List.append_assoc]; rfl), ?_⟩
  refine bj_astq (pc := 36) hC 1 14 rfl rfl (vp_in_iff.mpr (by decide)) dX6_init_36 (R' := (([(h0, .inr (6, [.ref q0, .int 0, .int 0])), (q0, .inl (gcA G 3, 12, .inr (.inr (.inr (.inr (va_up (va_up (fun _ => none) (Int32.toNatClampNeg 0) (some q1)) (Int32.toNatClampNeg 1) (some q3)))))))] ++ hsL G q1 a3) ++ hsL G q3 a5)) rfl ?_
  refine bj_iinc (pc := 37) (v := 2) hC dX6_init_37 rfl (by decide) rfl (by decide) ?_
  refine bj_goto (pc := 40) (tgt := 15) hC dX6_init_40 (by decide) ?_
  refine bj_iload_n (pc := 15) (i := 1) hC dX6_init_15 rfl rfl ?_
  refine bj_aload_n (pc := 16) (i := 0) hC dX6_init_16 rfl rfl ?_
  refine bj_get (pc := 17) hC inX6 0 rfl rfl 0 (by decide) kw265 rfl rfl dX6_init_17 ?_
  refine bj_alen (pc := 20) (v := 12) hC 1 3 rfl rfl (show Int32.ofNat 12 = 12 from by decide) dX6_init_20 ?_
  refine bj_icmp_ge (pc := 21) (tgt := 43) hC dX6_init_21 (by decide) (fun h => absurd h (by decide)) (fun _ => ?_)
  refine bj_aload_n (pc := 24) (i := 0) hC dX6_init_24 rfl rfl ?_
  refine bj_get (pc := 25) hC inX6 0 rfl rfl 0 (by decide) kw265 rfl rfl dX6_init_25 ?_
  refine bj_iload_n (pc := 28) (i := 1) hC dX6_init_28 rfl rfl ?_
  refine bj_new (pc := 29) (ci := 2) (fs := [.null, .null, .null, .null, .null, .int 0, .int 0, .int 0, .int 0, .int 0, .int 0, .int 0, .int 0, .int 0, .int 0, .int 0, .int 0]) hC inX2 tyX2 tyX2_ok kw262 kw129 kw7 rfl dfX2 (Nat.le_trans (by decide) hmc) (Nat.le_trans (by decide) hms) dX6_init_29 (fun q5 => ?_)
  refine bj_dup (pc := 32) hC dX6_init_32 ?_
  refine bj_callN (pc := 33) (As := []) (n := 0) (lv := 4) hC kw264 kw132 kw7 kw131 rfl ⟨by decide, by decide, by decide +kernel⟩ (by decide) (by decide) (by rw [← List.append_assoc]; exact cn_X2 G C.2.1 (X ++ (([(h0, .inr (6, [.ref q0, .int 0, .int 0])), (q0, .inl (gcA G 3, 12, .inr (.inr (.inr (.inr (va_up (va_up (fun _ => none) (Int32.toNatClampNeg 0) (some q1)) (Int32.toNatClampNeg 1) (some q3)))))))] ++ hsL G q1 a3) ++ hsL G q3 a5)) q5 ) rfl (Nat.le_of_ble_eq_true rfl) (Nat.le_trans (by decide) hmc) (Nat.le_trans (by decide) hms) dX6_init_33 (fun ws1 hw1 => ?_)
  obtain ⟨a7, rfl⟩ := hw1
  refine ⟨((([(h0, .inr (6, [.ref q0, .int 0, .int 0])), (q0, .inl (gcA G 3, 12, .inr (.inr (.inr (.inr (va_up (va_up (fun _ => none) (Int32.toNatClampNeg 0) (some q1)) (Int32.toNatClampNeg 1) (some q3)))))))] ++ hsL G q1 a3) ++ hsL G q3 a5) ++ hsL G q5 a7), by first | (rw [List.append_assoc]; done) | (rw [List.append_assoc]; rfl), ?_⟩
  refine bj_astq (pc := 36) hC 1 26 rfl rfl (vp_in_iff.mpr (by decide)) dX6_init_36 (R' := ((([(h0, .inr (6, [.ref q0, .int 0, .int 0])), (q0, .inl (gcA G 3, 12, .inr (.inr (.inr (.inr (va_up (va_up (va_up (fun _ => none) (Int32.toNatClampNeg 0) (some q1)) (Int32.toNatClampNeg 1) (some q3)) (Int32.toNatClampNeg 2) (some q5)))))))] ++ hsL G q1 a3) ++ hsL G q3 a5) ++ hsL G q5 a7)) rfl ?_
  refine bj_iinc (pc := 37) (v := 3) hC dX6_init_37 rfl (by decide) rfl (by decide) ?_
  refine bj_goto (pc := 40) (tgt := 15) hC dX6_init_40 (by decide) ?_
  refine bj_iload_n (pc := 15) (i := 1) hC dX6_init_15 rfl rfl ?_
  refine bj_aload_n (pc := 16) (i := 0) hC dX6_init_16 rfl rfl ?_
  refine bj_get (pc := 17) hC inX6 0 rfl rfl 0 (by decide) kw265 rfl rfl dX6_init_17 ?_
  refine bj_alen (pc := 20) (v := 12) hC 1 3 rfl rfl (show Int32.ofNat 12 = 12 from by decide) dX6_init_20 ?_
  refine bj_icmp_ge (pc := 21) (tgt := 43) hC dX6_init_21 (by decide) (fun h => absurd h (by decide)) (fun _ => ?_)
  refine bj_aload_n (pc := 24) (i := 0) hC dX6_init_24 rfl rfl ?_
  refine bj_get (pc := 25) hC inX6 0 rfl rfl 0 (by decide) kw265 rfl rfl dX6_init_25 ?_
  refine bj_iload_n (pc := 28) (i := 1) hC dX6_init_28 rfl rfl ?_
  refine bj_new (pc := 29) (ci := 2) (fs := [.null, .null, .null, .null, .null, .int 0, .int 0, .int 0, .int 0, .int 0, .int 0, .int 0, .int 0, .int 0, .int 0, .int 0, .int 0]) hC inX2 tyX2 tyX2_ok kw262 kw129 kw7 rfl dfX2 (Nat.le_trans (by decide) hmc) (Nat.le_trans (by decide) hms) dX6_init_29 (fun q7 => ?_)
  refine bj_dup (pc := 32) hC dX6_init_32 ?_
  refine bj_callN (pc := 33) (As := []) (n := 0) (lv := 4) hC kw264 kw132 kw7 kw131 rfl ⟨by decide, by decide, by decide +kernel⟩ (by decide) (by decide) (by rw [← List.append_assoc]; exact cn_X2 G C.2.1 (X ++ ((([(h0, .inr (6, [.ref q0, .int 0, .int 0])), (q0, .inl (gcA G 3, 12, .inr (.inr (.inr (.inr (va_up (va_up (va_up (fun _ => none) (Int32.toNatClampNeg 0) (some q1)) (Int32.toNatClampNeg 1) (some q3)) (Int32.toNatClampNeg 2) (some q5)))))))] ++ hsL G q1 a3) ++ hsL G q3 a5) ++ hsL G q5 a7)) q7 ) rfl (Nat.le_of_ble_eq_true rfl) (Nat.le_trans (by decide) hmc) (Nat.le_trans (by decide) hms) dX6_init_33 (fun ws1 hw1 => ?_)
  obtain ⟨a9, rfl⟩ := hw1
  refine ⟨(((([(h0, .inr (6, [.ref q0, .int 0, .int 0])), (q0, .inl (gcA G 3, 12, .inr (.inr (.inr (.inr (va_up (va_up (va_up (fun _ => none) (Int32.toNatClampNeg 0) (some q1)) (Int32.toNatClampNeg 1) (some q3)) (Int32.toNatClampNeg 2) (some q5)))))))] ++ hsL G q1 a3) ++ hsL G q3 a5) ++ hsL G q5 a7) ++ hsL G q7 a9), by first | (rw [List.append_assoc]; done) | (rw [List.append_assoc]; rfl), ?_⟩
  refine bj_astq (pc := 36) hC 1 38 rfl rfl (vp_in_iff.mpr (by decide)) dX6_init_36 (R' := (((([(h0, .inr (6, [.ref q0, .int 0, .int 0])), (q0, .inl (gcA G 3, 12, .inr (.inr (.inr (.inr (va_up (va_up (va_up (va_up (fun _ => none) (Int32.toNatClampNeg 0) (some q1)) (Int32.toNatClampNeg 1) (some q3)) (Int32.toNatClampNeg 2) (some q5)) (Int32.toNatClampNeg 3) (some q7)))))))] ++ hsL G q1 a3) ++ hsL G q3 a5) ++ hsL G q5 a7) ++ hsL G q7 a9)) rfl ?_
  refine bj_iinc (pc := 37) (v := 4) hC dX6_init_37 rfl (by decide) rfl (by decide) ?_
  refine bj_goto (pc := 40) (tgt := 15) hC dX6_init_40 (by decide) ?_
  refine bj_iload_n (pc := 15) (i := 1) hC dX6_init_15 rfl rfl ?_
  refine bj_aload_n (pc := 16) (i := 0) hC dX6_init_16 rfl rfl ?_
  refine bj_get (pc := 17) hC inX6 0 rfl rfl 0 (by decide) kw265 rfl rfl dX6_init_17 ?_
  refine bj_alen (pc := 20) (v := 12) hC 1 3 rfl rfl (show Int32.ofNat 12 = 12 from by decide) dX6_init_20 ?_
  refine bj_icmp_ge (pc := 21) (tgt := 43) hC dX6_init_21 (by decide) (fun h => absurd h (by decide)) (fun _ => ?_)
  refine bj_aload_n (pc := 24) (i := 0) hC dX6_init_24 rfl rfl ?_
  refine bj_get (pc := 25) hC inX6 0 rfl rfl 0 (by decide) kw265 rfl rfl dX6_init_25 ?_
  refine bj_iload_n (pc := 28) (i := 1) hC dX6_init_28 rfl rfl ?_
  refine bj_new (pc := 29) (ci := 2) (fs := [.null, .null, .null, .null, .null, .int 0, .int 0, .int 0, .int 0, .int 0, .int 0, .int 0, .int 0, .int 0, .int 0, .int 0, .int 0]) hC inX2 tyX2 tyX2_ok kw262 kw129 kw7 rfl dfX2 (Nat.le_trans (by decide) hmc) (Nat.le_trans (by decide) hms) dX6_init_29 (fun q9 => ?_)
  refine bj_dup (pc := 32) hC dX6_init_32 ?_
  refine bj_callN (pc := 33) (As := []) (n := 0) (lv := 4) hC kw264 kw132 kw7 kw131 rfl ⟨by decide, by decide, by decide +kernel⟩ (by decide) (by decide) (by rw [← List.append_assoc]; exact cn_X2 G C.2.1 (X ++ (((([(h0, .inr (6, [.ref q0, .int 0, .int 0])), (q0, .inl (gcA G 3, 12, .inr (.inr (.inr (.inr (va_up (va_up (va_up (va_up (fun _ => none) (Int32.toNatClampNeg 0) (some q1)) (Int32.toNatClampNeg 1) (some q3)) (Int32.toNatClampNeg 2) (some q5)) (Int32.toNatClampNeg 3) (some q7)))))))] ++ hsL G q1 a3) ++ hsL G q3 a5) ++ hsL G q5 a7) ++ hsL G q7 a9)) q9 ) rfl (Nat.le_of_ble_eq_true rfl) (Nat.le_trans (by decide) hmc) (Nat.le_trans (by decide) hms) dX6_init_33 (fun ws1 hw1 => ?_)
  obtain ⟨a11, rfl⟩ := hw1
  refine ⟨((((([(h0, .inr (6, [.ref q0, .int 0, .int 0])), (q0, .inl (gcA G 3, 12, .inr (.inr (.inr (.inr (va_up (va_up (va_up (va_up (fun _ => none) (Int32.toNatClampNeg 0) (some q1)) (Int32.toNatClampNeg 1) (some q3)) (Int32.toNatClampNeg 2) (some q5)) (Int32.toNatClampNeg 3) (some q7)))))))] ++ hsL G q1 a3) ++ hsL G q3 a5) ++ hsL G q5 a7) ++ hsL G q7 a9) ++ hsL G q9 a11), by first | (rw [List.append_assoc]; done) | (rw [List.append_assoc]; rfl), ?_⟩
  refine bj_astq (pc := 36) hC 1 50 rfl rfl (vp_in_iff.mpr (by decide)) dX6_init_36 (R' := ((((([(h0, .inr (6, [.ref q0, .int 0, .int 0])), (q0, .inl (gcA G 3, 12, .inr (.inr (.inr (.inr (va_up (va_up (va_up (va_up (va_up (fun _ => none) (Int32.toNatClampNeg 0) (some q1)) (Int32.toNatClampNeg 1) (some q3)) (Int32.toNatClampNeg 2) (some q5)) (Int32.toNatClampNeg 3) (some q7)) (Int32.toNatClampNeg 4) (some q9)))))))] ++ hsL G q1 a3) ++ hsL G q3 a5) ++ hsL G q5 a7) ++ hsL G q7 a9) ++ hsL G q9 a11)) rfl ?_
  refine bj_iinc (pc := 37) (v := 5) hC dX6_init_37 rfl (by decide) rfl (by decide) ?_
  refine bj_goto (pc := 40) (tgt := 15) hC dX6_init_40 (by decide) ?_
  refine bj_iload_n (pc := 15) (i := 1) hC dX6_init_15 rfl rfl ?_
  refine bj_aload_n (pc := 16) (i := 0) hC dX6_init_16 rfl rfl ?_
  refine bj_get (pc := 17) hC inX6 0 rfl rfl 0 (by decide) kw265 rfl rfl dX6_init_17 ?_
  refine bj_alen (pc := 20) (v := 12) hC 1 3 rfl rfl (show Int32.ofNat 12 = 12 from by decide) dX6_init_20 ?_
  refine bj_icmp_ge (pc := 21) (tgt := 43) hC dX6_init_21 (by decide) (fun h => absurd h (by decide)) (fun _ => ?_)
  refine bj_aload_n (pc := 24) (i := 0) hC dX6_init_24 rfl rfl ?_
  refine bj_get (pc := 25) hC inX6 0 rfl rfl 0 (by decide) kw265 rfl rfl dX6_init_25 ?_
  refine bj_iload_n (pc := 28) (i := 1) hC dX6_init_28 rfl rfl ?_
  refine bj_new (pc := 29) (ci := 2) (fs := [.null, .null, .null, .null, .null, .int 0, .int 0, .int 0, .int 0, .int 0, .int 0, .int 0, .int 0, .int 0, .int 0, .int 0, .int 0]) hC inX2 tyX2 tyX2_ok kw262 kw129 kw7 rfl dfX2 (Nat.le_trans (by decide) hmc) (Nat.le_trans (by decide) hms) dX6_init_29 (fun q11 => ?_)
  refine bj_dup (pc := 32) hC dX6_init_32 ?_
  refine bj_callN (pc := 33) (As := []) (n := 0) (lv := 4) hC kw264 kw132 kw7 kw131 rfl ⟨by decide, by decide, by decide +kernel⟩ (by decide) (by decide) (by rw [← List.append_assoc]; exact cn_X2 G C.2.1 (X ++ ((((([(h0, .inr (6, [.ref q0, .int 0, .int 0])), (q0, .inl (gcA G 3, 12, .inr (.inr (.inr (.inr (va_up (va_up (va_up (va_up (va_up (fun _ => none) (Int32.toNatClampNeg 0) (some q1)) (Int32.toNatClampNeg 1) (some q3)) (Int32.toNatClampNeg 2) (some q5)) (Int32.toNatClampNeg 3) (some q7)) (Int32.toNatClampNeg 4) (some q9)))))))] ++ hsL G q1 a3) ++ hsL G q3 a5) ++ hsL G q5 a7) ++ hsL G q7 a9) ++ hsL G q9 a11)) q11 ) rfl (Nat.le_of_ble_eq_true rfl) (Nat.le_trans (by decide) hmc) (Nat.le_trans (by decide) hms) dX6_init_33 (fun ws1 hw1 => ?_)
  obtain ⟨a13, rfl⟩ := hw1
  refine ⟨(((((([(h0, .inr (6, [.ref q0, .int 0, .int 0])), (q0, .inl (gcA G 3, 12, .inr (.inr (.inr (.inr (va_up (va_up (va_up (va_up (va_up (fun _ => none) (Int32.toNatClampNeg 0) (some q1)) (Int32.toNatClampNeg 1) (some q3)) (Int32.toNatClampNeg 2) (some q5)) (Int32.toNatClampNeg 3) (some q7)) (Int32.toNatClampNeg 4) (some q9)))))))] ++ hsL G q1 a3) ++ hsL G q3 a5) ++ hsL G q5 a7) ++ hsL G q7 a9) ++ hsL G q9 a11) ++ hsL G q11 a13), by first | (rw [List.append_assoc]; done) | (rw [List.append_assoc]; rfl), ?_⟩
  refine bj_astq (pc := 36) hC 1 62 rfl rfl (vp_in_iff.mpr (by decide)) dX6_init_36 (R' := (((((([(h0, .inr (6, [.ref q0, .int 0, .int 0])), (q0, .inl (gcA G 3, 12, .inr (.inr (.inr (.inr (va_up (va_up (va_up (va_up (va_up (va_up (fun _ => none) (Int32.toNatClampNeg 0) (some q1)) (Int32.toNatClampNeg 1) (some q3)) (Int32.toNatClampNeg 2) (some q5)) (Int32.toNatClampNeg 3) (some q7)) (Int32.toNatClampNeg 4) (some q9)) (Int32.toNatClampNeg 5) (some q11)))))))] ++ hsL G q1 a3) ++ hsL G q3 a5) ++ hsL G q5 a7) ++ hsL G q7 a9) ++ hsL G q9 a11) ++ hsL G q11 a13)) rfl ?_
  refine bj_iinc (pc := 37) (v := 6) hC dX6_init_37 rfl (by decide) rfl (by decide) ?_
  refine bj_goto (pc := 40) (tgt := 15) hC dX6_init_40 (by decide) ?_
  refine bj_iload_n (pc := 15) (i := 1) hC dX6_init_15 rfl rfl ?_
  refine bj_aload_n (pc := 16) (i := 0) hC dX6_init_16 rfl rfl ?_
  refine bj_get (pc := 17) hC inX6 0 rfl rfl 0 (by decide) kw265 rfl rfl dX6_init_17 ?_
  refine bj_alen (pc := 20) (v := 12) hC 1 3 rfl rfl (show Int32.ofNat 12 = 12 from by decide) dX6_init_20 ?_
  refine bj_icmp_ge (pc := 21) (tgt := 43) hC dX6_init_21 (by decide) (fun h => absurd h (by decide)) (fun _ => ?_)
  refine bj_aload_n (pc := 24) (i := 0) hC dX6_init_24 rfl rfl ?_
  refine bj_get (pc := 25) hC inX6 0 rfl rfl 0 (by decide) kw265 rfl rfl dX6_init_25 ?_
  refine bj_iload_n (pc := 28) (i := 1) hC dX6_init_28 rfl rfl ?_
  refine bj_new (pc := 29) (ci := 2) (fs := [.null, .null, .null, .null, .null, .int 0, .int 0, .int 0, .int 0, .int 0, .int 0, .int 0, .int 0, .int 0, .int 0, .int 0, .int 0]) hC inX2 tyX2 tyX2_ok kw262 kw129 kw7 rfl dfX2 (Nat.le_trans (by decide) hmc) (Nat.le_trans (by decide) hms) dX6_init_29 (fun q13 => ?_)
  refine bj_dup (pc := 32) hC dX6_init_32 ?_
  refine bj_callN (pc := 33) (As := []) (n := 0) (lv := 4) hC kw264 kw132 kw7 kw131 rfl ⟨by decide, by decide, by decide +kernel⟩ (by decide) (by decide) (by rw [← List.append_assoc]; exact cn_X2 G C.2.1 (X ++ (((((([(h0, .inr (6, [.ref q0, .int 0, .int 0])), (q0, .inl (gcA G 3, 12, .inr (.inr (.inr (.inr (va_up (va_up (va_up (va_up (va_up (va_up (fun _ => none) (Int32.toNatClampNeg 0) (some q1)) (Int32.toNatClampNeg 1) (some q3)) (Int32.toNatClampNeg 2) (some q5)) (Int32.toNatClampNeg 3) (some q7)) (Int32.toNatClampNeg 4) (some q9)) (Int32.toNatClampNeg 5) (some q11)))))))] ++ hsL G q1 a3) ++ hsL G q3 a5) ++ hsL G q5 a7) ++ hsL G q7 a9) ++ hsL G q9 a11) ++ hsL G q11 a13)) q13 ) rfl (Nat.le_of_ble_eq_true rfl) (Nat.le_trans (by decide) hmc) (Nat.le_trans (by decide) hms) dX6_init_33 (fun ws1 hw1 => ?_)
  obtain ⟨a15, rfl⟩ := hw1
  refine ⟨((((((([(h0, .inr (6, [.ref q0, .int 0, .int 0])), (q0, .inl (gcA G 3, 12, .inr (.inr (.inr (.inr (va_up (va_up (va_up (va_up (va_up (va_up (fun _ => none) (Int32.toNatClampNeg 0) (some q1)) (Int32.toNatClampNeg 1) (some q3)) (Int32.toNatClampNeg 2) (some q5)) (Int32.toNatClampNeg 3) (some q7)) (Int32.toNatClampNeg 4) (some q9)) (Int32.toNatClampNeg 5) (some q11)))))))] ++ hsL G q1 a3) ++ hsL G q3 a5) ++ hsL G q5 a7) ++ hsL G q7 a9) ++ hsL G q9 a11) ++ hsL G q11 a13) ++ hsL G q13 a15), by first | (rw [List.append_assoc]; done) | (rw [List.append_assoc]; rfl), ?_⟩
  refine bj_astq (pc := 36) hC 1 74 rfl rfl (vp_in_iff.mpr (by decide)) dX6_init_36 (R' := ((((((([(h0, .inr (6, [.ref q0, .int 0, .int 0])), (q0, .inl (gcA G 3, 12, .inr (.inr (.inr (.inr (va_up (va_up (va_up (va_up (va_up (va_up (va_up (fun _ => none) (Int32.toNatClampNeg 0) (some q1)) (Int32.toNatClampNeg 1) (some q3)) (Int32.toNatClampNeg 2) (some q5)) (Int32.toNatClampNeg 3) (some q7)) (Int32.toNatClampNeg 4) (some q9)) (Int32.toNatClampNeg 5) (some q11)) (Int32.toNatClampNeg 6) (some q13)))))))] ++ hsL G q1 a3) ++ hsL G q3 a5) ++ hsL G q5 a7) ++ hsL G q7 a9) ++ hsL G q9 a11) ++ hsL G q11 a13) ++ hsL G q13 a15)) rfl ?_
  refine bj_iinc (pc := 37) (v := 7) hC dX6_init_37 rfl (by decide) rfl (by decide) ?_
  refine bj_goto (pc := 40) (tgt := 15) hC dX6_init_40 (by decide) ?_
  refine bj_iload_n (pc := 15) (i := 1) hC dX6_init_15 rfl rfl ?_
  refine bj_aload_n (pc := 16) (i := 0) hC dX6_init_16 rfl rfl ?_
  refine bj_get (pc := 17) hC inX6 0 rfl rfl 0 (by decide) kw265 rfl rfl dX6_init_17 ?_
  refine bj_alen (pc := 20) (v := 12) hC 1 3 rfl rfl (show Int32.ofNat 12 = 12 from by decide) dX6_init_20 ?_
  refine bj_icmp_ge (pc := 21) (tgt := 43) hC dX6_init_21 (by decide) (fun h => absurd h (by decide)) (fun _ => ?_)
  refine bj_aload_n (pc := 24) (i := 0) hC dX6_init_24 rfl rfl ?_
  refine bj_get (pc := 25) hC inX6 0 rfl rfl 0 (by decide) kw265 rfl rfl dX6_init_25 ?_
  refine bj_iload_n (pc := 28) (i := 1) hC dX6_init_28 rfl rfl ?_
  refine bj_new (pc := 29) (ci := 2) (fs := [.null, .null, .null, .null, .null, .int 0, .int 0, .int 0, .int 0, .int 0, .int 0, .int 0, .int 0, .int 0, .int 0, .int 0, .int 0]) hC inX2 tyX2 tyX2_ok kw262 kw129 kw7 rfl dfX2 (Nat.le_trans (by decide) hmc) (Nat.le_trans (by decide) hms) dX6_init_29 (fun q15 => ?_)
  refine bj_dup (pc := 32) hC dX6_init_32 ?_
  refine bj_callN (pc := 33) (As := []) (n := 0) (lv := 4) hC kw264 kw132 kw7 kw131 rfl ⟨by decide, by decide, by decide +kernel⟩ (by decide) (by decide) (by rw [← List.append_assoc]; exact cn_X2 G C.2.1 (X ++ ((((((([(h0, .inr (6, [.ref q0, .int 0, .int 0])), (q0, .inl (gcA G 3, 12, .inr (.inr (.inr (.inr (va_up (va_up (va_up (va_up (va_up (va_up (va_up (fun _ => none) (Int32.toNatClampNeg 0) (some q1)) (Int32.toNatClampNeg 1) (some q3)) (Int32.toNatClampNeg 2) (some q5)) (Int32.toNatClampNeg 3) (some q7)) (Int32.toNatClampNeg 4) (some q9)) (Int32.toNatClampNeg 5) (some q11)) (Int32.toNatClampNeg 6) (some q13)))))))] ++ hsL G q1 a3) ++ hsL G q3 a5) ++ hsL G q5 a7) ++ hsL G q7 a9) ++ hsL G q9 a11) ++ hsL G q11 a13) ++ hsL G q13 a15)) q15 ) rfl (Nat.le_of_ble_eq_true rfl) (Nat.le_trans (by decide) hmc) (Nat.le_trans (by decide) hms) dX6_init_33 (fun ws1 hw1 => ?_)
  obtain ⟨a17, rfl⟩ := hw1
  refine ⟨(((((((([(h0, .inr (6, [.ref q0, .int 0, .int 0])), (q0, .inl (gcA G 3, 12, .inr (.inr (.inr (.inr (va_up (va_up (va_up (va_up (va_up (va_up (va_up (fun _ => none) (Int32.toNatClampNeg 0) (some q1)) (Int32.toNatClampNeg 1) (some q3)) (Int32.toNatClampNeg 2) (some q5)) (Int32.toNatClampNeg 3) (some q7)) (Int32.toNatClampNeg 4) (some q9)) (Int32.toNatClampNeg 5) (some q11)) (Int32.toNatClampNeg 6) (some q13)))))))] ++ hsL G q1 a3) ++ hsL G q3 a5) ++ hsL G q5 a7) ++ hsL G q7 a9) ++ hsL G q9 a11) ++ hsL G q11 a13) ++ hsL G q13 a15) ++ hsL G q15 a17), by first | (rw [List.append_assoc]; done) | (rw [List.append_assoc]; rfl), ?_⟩
  refine bj_astq (pc := 36) hC 1 86 rfl rfl (vp_in_iff.mpr (by decide)) dX6_init_36 (R' := (((((((([(h0, .inr (6, [.ref q0, .int 0, .int 0])), (q0, .inl (gcA G 3, 12, .inr (.inr (.inr (.inr (va_up (va_up (va_up (va_up (va_up (va_up (va_up (va_up (fun _ => none) (Int32.toNatClampNeg 0) (some q1)) (Int32.toNatClampNeg 1) (some q3)) (Int32.toNatClampNeg 2) (some q5)) (Int32.toNatClampNeg 3) (some q7)) (Int32.toNatClampNeg 4) (some q9)) (Int32.toNatClampNeg 5) (some q11)) (Int32.toNatClampNeg 6) (some q13)) (Int32.toNatClampNeg 7) (some q15)))))))] ++ hsL G q1 a3) ++ hsL G q3 a5) ++ hsL G q5 a7) ++ hsL G q7 a9) ++ hsL G q9 a11) ++ hsL G q11 a13) ++ hsL G q13 a15) ++ hsL G q15 a17)) rfl ?_
  refine bj_iinc (pc := 37) (v := 8) hC dX6_init_37 rfl (by decide) rfl (by decide) ?_
  refine bj_goto (pc := 40) (tgt := 15) hC dX6_init_40 (by decide) ?_
  refine bj_iload_n (pc := 15) (i := 1) hC dX6_init_15 rfl rfl ?_
  refine bj_aload_n (pc := 16) (i := 0) hC dX6_init_16 rfl rfl ?_
  refine bj_get (pc := 17) hC inX6 0 rfl rfl 0 (by decide) kw265 rfl rfl dX6_init_17 ?_
  refine bj_alen (pc := 20) (v := 12) hC 1 3 rfl rfl (show Int32.ofNat 12 = 12 from by decide) dX6_init_20 ?_
  refine bj_icmp_ge (pc := 21) (tgt := 43) hC dX6_init_21 (by decide) (fun h => absurd h (by decide)) (fun _ => ?_)
  refine bj_aload_n (pc := 24) (i := 0) hC dX6_init_24 rfl rfl ?_
  refine bj_get (pc := 25) hC inX6 0 rfl rfl 0 (by decide) kw265 rfl rfl dX6_init_25 ?_
  refine bj_iload_n (pc := 28) (i := 1) hC dX6_init_28 rfl rfl ?_
  refine bj_new (pc := 29) (ci := 2) (fs := [.null, .null, .null, .null, .null, .int 0, .int 0, .int 0, .int 0, .int 0, .int 0, .int 0, .int 0, .int 0, .int 0, .int 0, .int 0]) hC inX2 tyX2 tyX2_ok kw262 kw129 kw7 rfl dfX2 (Nat.le_trans (by decide) hmc) (Nat.le_trans (by decide) hms) dX6_init_29 (fun q17 => ?_)
  refine bj_dup (pc := 32) hC dX6_init_32 ?_
  refine bj_callN (pc := 33) (As := []) (n := 0) (lv := 4) hC kw264 kw132 kw7 kw131 rfl ⟨by decide, by decide, by decide +kernel⟩ (by decide) (by decide) (by rw [← List.append_assoc]; exact cn_X2 G C.2.1 (X ++ (((((((([(h0, .inr (6, [.ref q0, .int 0, .int 0])), (q0, .inl (gcA G 3, 12, .inr (.inr (.inr (.inr (va_up (va_up (va_up (va_up (va_up (va_up (va_up (va_up (fun _ => none) (Int32.toNatClampNeg 0) (some q1)) (Int32.toNatClampNeg 1) (some q3)) (Int32.toNatClampNeg 2) (some q5)) (Int32.toNatClampNeg 3) (some q7)) (Int32.toNatClampNeg 4) (some q9)) (Int32.toNatClampNeg 5) (some q11)) (Int32.toNatClampNeg 6) (some q13)) (Int32.toNatClampNeg 7) (some q15)))))))] ++ hsL G q1 a3) ++ hsL G q3 a5) ++ hsL G q5 a7) ++ hsL G q7 a9) ++ hsL G q9 a11) ++ hsL G q11 a13) ++ hsL G q13 a15) ++ hsL G q15 a17)) q17 ) rfl (Nat.le_of_ble_eq_true rfl) (Nat.le_trans (by decide) hmc) (Nat.le_trans (by decide) hms) dX6_init_33 (fun ws1 hw1 => ?_)
  obtain ⟨a19, rfl⟩ := hw1
  refine ⟨((((((((([(h0, .inr (6, [.ref q0, .int 0, .int 0])), (q0, .inl (gcA G 3, 12, .inr (.inr (.inr (.inr (va_up (va_up (va_up (va_up (va_up (va_up (va_up (va_up (fun _ => none) (Int32.toNatClampNeg 0) (some q1)) (Int32.toNatClampNeg 1) (some q3)) (Int32.toNatClampNeg 2) (some q5)) (Int32.toNatClampNeg 3) (some q7)) (Int32.toNatClampNeg 4) (some q9)) (Int32.toNatClampNeg 5) (some q11)) (Int32.toNatClampNeg 6) (some q13)) (Int32.toNatClampNeg 7) (some q15)))))))] ++ hsL G q1 a3) ++ hsL G q3 a5) ++ hsL G q5 a7) ++ hsL G q7 a9) ++ hsL G q9 a11) ++ hsL G q11 a13) ++ hsL G q13 a15) ++ hsL G q15 a17) ++ hsL G q17 a19), by first | (rw [List.append_assoc]; done) | (rw [List.append_assoc]; rfl), ?_⟩
  refine bj_astq (pc := 36) hC 1 98 rfl rfl (vp_in_iff.mpr (by decide)) dX6_init_36 (R' := ((((((((([(h0, .inr (6, [.ref q0, .int 0, .int 0])), (q0, .inl (gcA G 3, 12, .inr (.inr (.inr (.inr (va_up (va_up (va_up (va_up (va_up (va_up (va_up (va_up (va_up (fun _ => none) (Int32.toNatClampNeg 0) (some q1)) (Int32.toNatClampNeg 1) (some q3)) (Int32.toNatClampNeg 2) (some q5)) (Int32.toNatClampNeg 3) (some q7)) (Int32.toNatClampNeg 4) (some q9)) (Int32.toNatClampNeg 5) (some q11)) (Int32.toNatClampNeg 6) (some q13)) (Int32.toNatClampNeg 7) (some q15)) (Int32.toNatClampNeg 8) (some q17)))))))] ++ hsL G q1 a3) ++ hsL G q3 a5) ++ hsL G q5 a7) ++ hsL G q7 a9) ++ hsL G q9 a11) ++ hsL G q11 a13) ++ hsL G q13 a15) ++ hsL G q15 a17) ++ hsL G q17 a19)) rfl ?_
  refine bj_iinc (pc := 37) (v := 9) hC dX6_init_37 rfl (by decide) rfl (by decide) ?_
  refine bj_goto (pc := 40) (tgt := 15) hC dX6_init_40 (by decide) ?_
  refine bj_iload_n (pc := 15) (i := 1) hC dX6_init_15 rfl rfl ?_
  refine bj_aload_n (pc := 16) (i := 0) hC dX6_init_16 rfl rfl ?_
  refine bj_get (pc := 17) hC inX6 0 rfl rfl 0 (by decide) kw265 rfl rfl dX6_init_17 ?_
  refine bj_alen (pc := 20) (v := 12) hC 1 3 rfl rfl (show Int32.ofNat 12 = 12 from by decide) dX6_init_20 ?_
  refine bj_icmp_ge (pc := 21) (tgt := 43) hC dX6_init_21 (by decide) (fun h => absurd h (by decide)) (fun _ => ?_)
  refine bj_aload_n (pc := 24) (i := 0) hC dX6_init_24 rfl rfl ?_
  refine bj_get (pc := 25) hC inX6 0 rfl rfl 0 (by decide) kw265 rfl rfl dX6_init_25 ?_
  refine bj_iload_n (pc := 28) (i := 1) hC dX6_init_28 rfl rfl ?_
  refine bj_new (pc := 29) (ci := 2) (fs := [.null, .null, .null, .null, .null, .int 0, .int 0, .int 0, .int 0, .int 0, .int 0, .int 0, .int 0, .int 0, .int 0, .int 0, .int 0]) hC inX2 tyX2 tyX2_ok kw262 kw129 kw7 rfl dfX2 (Nat.le_trans (by decide) hmc) (Nat.le_trans (by decide) hms) dX6_init_29 (fun q19 => ?_)
  refine bj_dup (pc := 32) hC dX6_init_32 ?_
  refine bj_callN (pc := 33) (As := []) (n := 0) (lv := 4) hC kw264 kw132 kw7 kw131 rfl ⟨by decide, by decide, by decide +kernel⟩ (by decide) (by decide) (by rw [← List.append_assoc]; exact cn_X2 G C.2.1 (X ++ ((((((((([(h0, .inr (6, [.ref q0, .int 0, .int 0])), (q0, .inl (gcA G 3, 12, .inr (.inr (.inr (.inr (va_up (va_up (va_up (va_up (va_up (va_up (va_up (va_up (va_up (fun _ => none) (Int32.toNatClampNeg 0) (some q1)) (Int32.toNatClampNeg 1) (some q3)) (Int32.toNatClampNeg 2) (some q5)) (Int32.toNatClampNeg 3) (some q7)) (Int32.toNatClampNeg 4) (some q9)) (Int32.toNatClampNeg 5) (some q11)) (Int32.toNatClampNeg 6) (some q13)) (Int32.toNatClampNeg 7) (some q15)) (Int32.toNatClampNeg 8) (some q17)))))))] ++ hsL G q1 a3) ++ hsL G q3 a5) ++ hsL G q5 a7) ++ hsL G q7 a9) ++ hsL G q9 a11) ++ hsL G q11 a13) ++ hsL G q13 a15) ++ hsL G q15 a17) ++ hsL G q17 a19)) q19 ) rfl (Nat.le_of_ble_eq_true rfl) (Nat.le_trans (by decide) hmc) (Nat.le_trans (by decide) hms) dX6_init_33 (fun ws1 hw1 => ?_)
  obtain ⟨a21, rfl⟩ := hw1
  refine ⟨(((((((((([(h0, .inr (6, [.ref q0, .int 0, .int 0])), (q0, .inl (gcA G 3, 12, .inr (.inr (.inr (.inr (va_up (va_up (va_up (va_up (va_up (va_up (va_up (va_up (va_up (fun _ => none) (Int32.toNatClampNeg 0) (some q1)) (Int32.toNatClampNeg 1) (some q3)) (Int32.toNatClampNeg 2) (some q5)) (Int32.toNatClampNeg 3) (some q7)) (Int32.toNatClampNeg 4) (some q9)) (Int32.toNatClampNeg 5) (some q11)) (Int32.toNatClampNeg 6) (some q13)) (Int32.toNatClampNeg 7) (some q15)) (Int32.toNatClampNeg 8) (some q17)))))))] ++ hsL G q1 a3) ++ hsL G q3 a5) ++ hsL G q5 a7) ++ hsL G q7 a9) ++ hsL G q9 a11) ++ hsL G q11 a13) ++ hsL G q13 a15) ++ hsL G q15 a17) ++ hsL G q17 a19) ++ hsL G q19 a21), by first | (rw [List.append_assoc]; done) | (rw [List.append_assoc]; rfl), ?_⟩
  refine bj_astq (pc := 36) hC 1 110 rfl rfl (vp_in_iff.mpr (by decide)) dX6_init_36 (R' := (((((((((([(h0, .inr (6, [.ref q0, .int 0, .int 0])), (q0, .inl (gcA G 3, 12, .inr (.inr (.inr (.inr (va_up (va_up (va_up (va_up (va_up (va_up (va_up (va_up (va_up (va_up (fun _ => none) (Int32.toNatClampNeg 0) (some q1)) (Int32.toNatClampNeg 1) (some q3)) (Int32.toNatClampNeg 2) (some q5)) (Int32.toNatClampNeg 3) (some q7)) (Int32.toNatClampNeg 4) (some q9)) (Int32.toNatClampNeg 5) (some q11)) (Int32.toNatClampNeg 6) (some q13)) (Int32.toNatClampNeg 7) (some q15)) (Int32.toNatClampNeg 8) (some q17)) (Int32.toNatClampNeg 9) (some q19)))))))] ++ hsL G q1 a3) ++ hsL G q3 a5) ++ hsL G q5 a7) ++ hsL G q7 a9) ++ hsL G q9 a11) ++ hsL G q11 a13) ++ hsL G q13 a15) ++ hsL G q15 a17) ++ hsL G q17 a19) ++ hsL G q19 a21)) rfl ?_
  refine bj_iinc (pc := 37) (v := 10) hC dX6_init_37 rfl (by decide) rfl (by decide) ?_
  refine bj_goto (pc := 40) (tgt := 15) hC dX6_init_40 (by decide) ?_
  refine bj_iload_n (pc := 15) (i := 1) hC dX6_init_15 rfl rfl ?_
  refine bj_aload_n (pc := 16) (i := 0) hC dX6_init_16 rfl rfl ?_
  refine bj_get (pc := 17) hC inX6 0 rfl rfl 0 (by decide) kw265 rfl rfl dX6_init_17 ?_
  refine bj_alen (pc := 20) (v := 12) hC 1 3 rfl rfl (show Int32.ofNat 12 = 12 from by decide) dX6_init_20 ?_
  refine bj_icmp_ge (pc := 21) (tgt := 43) hC dX6_init_21 (by decide) (fun h => absurd h (by decide)) (fun _ => ?_)
  refine bj_aload_n (pc := 24) (i := 0) hC dX6_init_24 rfl rfl ?_
  refine bj_get (pc := 25) hC inX6 0 rfl rfl 0 (by decide) kw265 rfl rfl dX6_init_25 ?_
  refine bj_iload_n (pc := 28) (i := 1) hC dX6_init_28 rfl rfl ?_
  refine bj_new (pc := 29) (ci := 2) (fs := [.null, .null, .null, .null, .null, .int 0, .int 0, .int 0, .int 0, .int 0, .int 0, .int 0, .int 0, .int 0, .int 0, .int 0, .int 0]) hC inX2 tyX2 tyX2_ok kw262 kw129 kw7 rfl dfX2 (Nat.le_trans (by decide) hmc) (Nat.le_trans (by decide) hms) dX6_init_29 (fun q21 => ?_)
  refine bj_dup (pc := 32) hC dX6_init_32 ?_
  refine bj_callN (pc := 33) (As := []) (n := 0) (lv := 4) hC kw264 kw132 kw7 kw131 rfl ⟨by decide, by decide, by decide +kernel⟩ (by decide) (by decide) (by rw [← List.append_assoc]; exact cn_X2 G C.2.1 (X ++ (((((((((([(h0, .inr (6, [.ref q0, .int 0, .int 0])), (q0, .inl (gcA G 3, 12, .inr (.inr (.inr (.inr (va_up (va_up (va_up (va_up (va_up (va_up (va_up (va_up (va_up (va_up (fun _ => none) (Int32.toNatClampNeg 0) (some q1)) (Int32.toNatClampNeg 1) (some q3)) (Int32.toNatClampNeg 2) (some q5)) (Int32.toNatClampNeg 3) (some q7)) (Int32.toNatClampNeg 4) (some q9)) (Int32.toNatClampNeg 5) (some q11)) (Int32.toNatClampNeg 6) (some q13)) (Int32.toNatClampNeg 7) (some q15)) (Int32.toNatClampNeg 8) (some q17)) (Int32.toNatClampNeg 9) (some q19)))))))] ++ hsL G q1 a3) ++ hsL G q3 a5) ++ hsL G q5 a7) ++ hsL G q7 a9) ++ hsL G q9 a11) ++ hsL G q11 a13) ++ hsL G q13 a15) ++ hsL G q15 a17) ++ hsL G q17 a19) ++ hsL G q19 a21)) q21 ) rfl (Nat.le_of_ble_eq_true rfl) (Nat.le_trans (by decide) hmc) (Nat.le_trans (by decide) hms) dX6_init_33 (fun ws1 hw1 => ?_)
  obtain ⟨a23, rfl⟩ := hw1
  refine ⟨((((((((((([(h0, .inr (6, [.ref q0, .int 0, .int 0])), (q0, .inl (gcA G 3, 12, .inr (.inr (.inr (.inr (va_up (va_up (va_up (va_up (va_up (va_up (va_up (va_up (va_up (va_up (fun _ => none) (Int32.toNatClampNeg 0) (some q1)) (Int32.toNatClampNeg 1) (some q3)) (Int32.toNatClampNeg 2) (some q5)) (Int32.toNatClampNeg 3) (some q7)) (Int32.toNatClampNeg 4) (some q9)) (Int32.toNatClampNeg 5) (some q11)) (Int32.toNatClampNeg 6) (some q13)) (Int32.toNatClampNeg 7) (some q15)) (Int32.toNatClampNeg 8) (some q17)) (Int32.toNatClampNeg 9) (some q19)))))))] ++ hsL G q1 a3) ++ hsL G q3 a5) ++ hsL G q5 a7) ++ hsL G q7 a9) ++ hsL G q9 a11) ++ hsL G q11 a13) ++ hsL G q13 a15) ++ hsL G q15 a17) ++ hsL G q17 a19) ++ hsL G q19 a21) ++ hsL G q21 a23), by first | (rw [List.append_assoc]; done) | (rw [List.append_assoc]; rfl), ?_⟩
  refine bj_astq (pc := 36) hC 1 122 rfl rfl (vp_in_iff.mpr (by decide)) dX6_init_36 (R' := ((((((((((([(h0, .inr (6, [.ref q0, .int 0, .int 0])), (q0, .inl (gcA G 3, 12, .inr (.inr (.inr (.inr (va_up (va_up (va_up (va_up (va_up (va_up (va_up (va_up (va_up (va_up (va_up (fun _ => none) (Int32.toNatClampNeg 0) (some q1)) (Int32.toNatClampNeg 1) (some q3)) (Int32.toNatClampNeg 2) (some q5)) (Int32.toNatClampNeg 3) (some q7)) (Int32.toNatClampNeg 4) (some q9)) (Int32.toNatClampNeg 5) (some q11)) (Int32.toNatClampNeg 6) (some q13)) (Int32.toNatClampNeg 7) (some q15)) (Int32.toNatClampNeg 8) (some q17)) (Int32.toNatClampNeg 9) (some q19)) (Int32.toNatClampNeg 10) (some q21)))))))] ++ hsL G q1 a3) ++ hsL G q3 a5) ++ hsL G q5 a7) ++ hsL G q7 a9) ++ hsL G q9 a11) ++ hsL G q11 a13) ++ hsL G q13 a15) ++ hsL G q15 a17) ++ hsL G q17 a19) ++ hsL G q19 a21) ++ hsL G q21 a23)) rfl ?_
  refine bj_iinc (pc := 37) (v := 11) hC dX6_init_37 rfl (by decide) rfl (by decide) ?_
  refine bj_goto (pc := 40) (tgt := 15) hC dX6_init_40 (by decide) ?_
  refine bj_iload_n (pc := 15) (i := 1) hC dX6_init_15 rfl rfl ?_
  refine bj_aload_n (pc := 16) (i := 0) hC dX6_init_16 rfl rfl ?_
  refine bj_get (pc := 17) hC inX6 0 rfl rfl 0 (by decide) kw265 rfl rfl dX6_init_17 ?_
  refine bj_alen (pc := 20) (v := 12) hC 1 3 rfl rfl (show Int32.ofNat 12 = 12 from by decide) dX6_init_20 ?_
  refine bj_icmp_ge (pc := 21) (tgt := 43) hC dX6_init_21 (by decide) (fun h => absurd h (by decide)) (fun _ => ?_)
  refine bj_aload_n (pc := 24) (i := 0) hC dX6_init_24 rfl rfl ?_
  refine bj_get (pc := 25) hC inX6 0 rfl rfl 0 (by decide) kw265 rfl rfl dX6_init_25 ?_
  refine bj_iload_n (pc := 28) (i := 1) hC dX6_init_28 rfl rfl ?_
  refine bj_new (pc := 29) (ci := 2) (fs := [.null, .null, .null, .null, .null, .int 0, .int 0, .int 0, .int 0, .int 0, .int 0, .int 0, .int 0, .int 0, .int 0, .int 0, .int 0]) hC inX2 tyX2 tyX2_ok kw262 kw129 kw7 rfl dfX2 (Nat.le_trans (by decide) hmc) (Nat.le_trans (by decide) hms) dX6_init_29 (fun q23 => ?_)
  refine bj_dup (pc := 32) hC dX6_init_32 ?_
  refine bj_callN (pc := 33) (As := []) (n := 0) (lv := 4) hC kw264 kw132 kw7 kw131 rfl ⟨by decide, by decide, by decide +kernel⟩ (by decide) (by decide) (by rw [← List.append_assoc]; exact cn_X2 G C.2.1 (X ++ ((((((((((([(h0, .inr (6, [.ref q0, .int 0, .int 0])), (q0, .inl (gcA G 3, 12, .inr (.inr (.inr (.inr (va_up (va_up (va_up (va_up (va_up (va_up (va_up (va_up (va_up (va_up (va_up (fun _ => none) (Int32.toNatClampNeg 0) (some q1)) (Int32.toNatClampNeg 1) (some q3)) (Int32.toNatClampNeg 2) (some q5)) (Int32.toNatClampNeg 3) (some q7)) (Int32.toNatClampNeg 4) (some q9)) (Int32.toNatClampNeg 5) (some q11)) (Int32.toNatClampNeg 6) (some q13)) (Int32.toNatClampNeg 7) (some q15)) (Int32.toNatClampNeg 8) (some q17)) (Int32.toNatClampNeg 9) (some q19)) (Int32.toNatClampNeg 10) (some q21)))))))] ++ hsL G q1 a3) ++ hsL G q3 a5) ++ hsL G q5 a7) ++ hsL G q7 a9) ++ hsL G q9 a11) ++ hsL G q11 a13) ++ hsL G q13 a15) ++ hsL G q15 a17) ++ hsL G q17 a19) ++ hsL G q19 a21) ++ hsL G q21 a23)) q23 ) rfl (Nat.le_of_ble_eq_true rfl) (Nat.le_trans (by decide) hmc) (Nat.le_trans (by decide) hms) dX6_init_33 (fun ws1 hw1 => ?_)
  obtain ⟨a25, rfl⟩ := hw1
  refine ⟨(((((((((((([(h0, .inr (6, [.ref q0, .int 0, .int 0])), (q0, .inl (gcA G 3, 12, .inr (.inr (.inr (.inr (va_up (va_up (va_up (va_up (va_up (va_up (va_up (va_up (va_up (va_up (va_up (fun _ => none) (Int32.toNatClampNeg 0) (some q1)) (Int32.toNatClampNeg 1) (some q3)) (Int32.toNatClampNeg 2) (some q5)) (Int32.toNatClampNeg 3) (some q7)) (Int32.toNatClampNeg 4) (some q9)) (Int32.toNatClampNeg 5) (some q11)) (Int32.toNatClampNeg 6) (some q13)) (Int32.toNatClampNeg 7) (some q15)) (Int32.toNatClampNeg 8) (some q17)) (Int32.toNatClampNeg 9) (some q19)) (Int32.toNatClampNeg 10) (some q21)))))))] ++ hsL G q1 a3) ++ hsL G q3 a5) ++ hsL G q5 a7) ++ hsL G q7 a9) ++ hsL G q9 a11) ++ hsL G q11 a13) ++ hsL G q13 a15) ++ hsL G q15 a17) ++ hsL G q17 a19) ++ hsL G q19 a21) ++ hsL G q21 a23) ++ hsL G q23 a25), by first | (rw [List.append_assoc]; done) | (rw [List.append_assoc]; rfl), ?_⟩
  refine bj_astq (pc := 36) hC 1 134 rfl rfl (vp_in_iff.mpr (by decide)) dX6_init_36 (R' := (((((((((((([(h0, .inr (6, [.ref q0, .int 0, .int 0])), (q0, .inl (gcA G 3, 12, .inr (.inr (.inr (.inr (va_up (va_up (va_up (va_up (va_up (va_up (va_up (va_up (va_up (va_up (va_up (va_up (fun _ => none) (Int32.toNatClampNeg 0) (some q1)) (Int32.toNatClampNeg 1) (some q3)) (Int32.toNatClampNeg 2) (some q5)) (Int32.toNatClampNeg 3) (some q7)) (Int32.toNatClampNeg 4) (some q9)) (Int32.toNatClampNeg 5) (some q11)) (Int32.toNatClampNeg 6) (some q13)) (Int32.toNatClampNeg 7) (some q15)) (Int32.toNatClampNeg 8) (some q17)) (Int32.toNatClampNeg 9) (some q19)) (Int32.toNatClampNeg 10) (some q21)) (Int32.toNatClampNeg 11) (some q23)))))))] ++ hsL G q1 a3) ++ hsL G q3 a5) ++ hsL G q5 a7) ++ hsL G q7 a9) ++ hsL G q9 a11) ++ hsL G q11 a13) ++ hsL G q13 a15) ++ hsL G q15 a17) ++ hsL G q17 a19) ++ hsL G q19 a21) ++ hsL G q21 a23) ++ hsL G q23 a25)) rfl ?_
  refine bj_iinc (pc := 37) (v := 12) hC dX6_init_37 rfl (by decide) rfl (by decide) ?_
  refine bj_goto (pc := 40) (tgt := 15) hC dX6_init_40 (by decide) ?_
  refine bj_iload_n (pc := 15) (i := 1) hC dX6_init_15 rfl rfl ?_
  refine bj_aload_n (pc := 16) (i := 0) hC dX6_init_16 rfl rfl ?_
  refine bj_get (pc := 17) hC inX6 0 rfl rfl 0 (by decide) kw265 rfl rfl dX6_init_17 ?_
  refine bj_alen (pc := 20) (v := 12) hC 1 3 rfl rfl (show Int32.ofNat 12 = 12 from by decide) dX6_init_20 ?_
  refine bj_icmp_ge (pc := 21) (tgt := 43) hC dX6_init_21 (by decide) (fun _ => ?_) (fun h => absurd (by decide) h)
  exact bj_ret (pc := 43) hC hrt dX6_init_43 (⟨q0, fun j => [q1, q3, q5, q7, q9, q11, q13, q15, q17, q19, q21, q23].getD j 0, fun j => [a3, a5, a7, a9, a11, a13, a15, a17, a19, a21, a23, a25].getD j (fun _ => 0), rfl⟩)
theorem dX10_init_0 : decode cX10_init 0 = .ok (.aload_n 0, 1) := by decide +kernel
theorem dX10_init_1 : decode cX10_init 1 = .ok (.invokespecial 1, 3) := by decide +kernel
theorem dX10_init_4 : decode cX10_init 4 = .ok (.aload_n 0, 1) := by decide +kernel
theorem dX10_init_5 : decode cX10_init 5 = .ok (.sipush 704, 3) := by decide +kernel
theorem dX10_init_8 : decode cX10_init 8 = .ok (.newarray .int, 2) := by decide +kernel
theorem dX10_init_10 : decode cX10_init 10 = .ok (.putfield 7, 3) := by decide +kernel
theorem dX10_init_13 : decode cX10_init 13 = .ok (.aload_n 0, 1) := by decide +kernel
theorem dX10_init_14 : decode cX10_init 14 = .ok (.sipush 704, 3) := by decide +kernel
theorem dX10_init_17 : decode cX10_init 17 = .ok (.newarray .int, 2) := by decide +kernel
theorem dX10_init_19 : decode cX10_init 19 = .ok (.putfield 13, 3) := by decide +kernel
theorem dX10_init_22 : decode cX10_init 22 = .ok (.aload_n 0, 1) := by decide +kernel
theorem dX10_init_23 : decode cX10_init 23 = .ok (.sipush 304, 3) := by decide +kernel
theorem dX10_init_26 : decode cX10_init 26 = .ok (.newarray .int, 2) := by decide +kernel
theorem dX10_init_28 : decode cX10_init 28 = .ok (.putfield 16, 3) := by decide +kernel
theorem dX10_init_31 : decode cX10_init 31 = .ok (.aload_n 0, 1) := by decide +kernel
theorem dX10_init_32 : decode cX10_init 32 = .ok (.sipush 3648, 3) := by decide +kernel
theorem dX10_init_35 : decode cX10_init 35 = .ok (.newarray .int, 2) := by decide +kernel
theorem dX10_init_37 : decode cX10_init 37 = .ok (.putfield 19, 3) := by decide +kernel
theorem dX10_init_40 : decode cX10_init 40 = .ok (.aload_n 0, 1) := by decide +kernel
theorem dX10_init_41 : decode cX10_init 41 = .ok (.sipush 400, 3) := by decide +kernel
theorem dX10_init_44 : decode cX10_init 44 = .ok (.newarray .int, 2) := by decide +kernel
theorem dX10_init_46 : decode cX10_init 46 = .ok (.putfield 22, 3) := by decide +kernel
theorem dX10_init_49 : decode cX10_init 49 = .ok (.aload_n 0, 1) := by decide +kernel
theorem dX10_init_50 : decode cX10_init 50 = .ok (.iconst (-1), 1) := by decide +kernel
theorem dX10_init_51 : decode cX10_init 51 = .ok (.putfield 25, 3) := by decide +kernel
theorem dX10_init_54 : decode cX10_init 54 = .ok (.aload_n 0, 1) := by decide +kernel
theorem dX10_init_55 : decode cX10_init 55 = .ok (.bipush 7, 2) := by decide +kernel
theorem dX10_init_57 : decode cX10_init 57 = .ok (.newarray .int, 2) := by decide +kernel
theorem dX10_init_59 : decode cX10_init 59 = .ok (.putfield 29, 3) := by decide +kernel
theorem dX10_init_62 : decode cX10_init 62 = .ok (.aload_n 0, 1) := by decide +kernel
theorem dX10_init_63 : decode cX10_init 63 = .ok (.bipush 8, 2) := by decide +kernel
theorem dX10_init_65 : decode cX10_init 65 = .ok (.newarray .int, 2) := by decide +kernel
theorem dX10_init_67 : decode cX10_init 67 = .ok (.putfield 32, 3) := by decide +kernel
theorem dX10_init_70 : decode cX10_init 70 = .ok (.aload_n 0, 1) := by decide +kernel
theorem dX10_init_71 : decode cX10_init 71 = .ok (.sipush 2304, 3) := by decide +kernel
theorem dX10_init_74 : decode cX10_init 74 = .ok (.newarray .int, 2) := by decide +kernel
theorem dX10_init_76 : decode cX10_init 76 = .ok (.putfield 35, 3) := by decide +kernel
theorem dX10_init_79 : decode cX10_init 79 = .ok (.aload_n 0, 1) := by decide +kernel
theorem dX10_init_80 : decode cX10_init 80 = .ok (.bipush 52, 2) := by decide +kernel
theorem dX10_init_82 : decode cX10_init 82 = .ok (.newarray .boolean, 2) := by decide +kernel
theorem dX10_init_84 : decode cX10_init 84 = .ok (.putfield 38, 3) := by decide +kernel
theorem dX10_init_87 : decode cX10_init 87 = .ok (.aload_n 0, 1) := by decide +kernel
theorem dX10_init_88 : decode cX10_init 88 = .ok (.getfield 7, 3) := by decide +kernel
theorem dX10_init_91 : decode cX10_init 91 = .ok (.iconst 1, 1) := by decide +kernel
theorem dX10_init_92 : decode cX10_init 92 = .ok (.iconst (-1), 1) := by decide +kernel
theorem dX10_init_93 : decode cX10_init 93 = .ok (.iastore, 1) := by decide +kernel
theorem dX10_init_94 : decode cX10_init 94 = .ok (.aload_n 0, 1) := by decide +kernel
theorem dX10_init_95 : decode cX10_init 95 = .ok (.getfield 7, 3) := by decide +kernel
theorem dX10_init_98 : decode cX10_init 98 = .ok (.bipush 6, 2) := by decide +kernel
theorem dX10_init_100 : decode cX10_init 100 = .ok (.iconst 1, 1) := by decide +kernel
theorem dX10_init_101 : decode cX10_init 101 = .ok (.iastore, 1) := by decide +kernel
theorem dX10_init_102 : decode cX10_init 102 = .ok (.aload_n 0, 1) := by decide +kernel
theorem dX10_init_103 : decode cX10_init 103 = .ok (.getfield 7, 3) := by decide +kernel
theorem dX10_init_106 : decode cX10_init 106 = .ok (.bipush 7, 2) := by decide +kernel
theorem dX10_init_108 : decode cX10_init 108 = .ok (.bipush 100, 2) := by decide +kernel
theorem dX10_init_110 : decode cX10_init 110 = .ok (.iastore, 1) := by decide +kernel
theorem dX10_init_111 : decode cX10_init 111 = .ok (.aload_n 0, 1) := by decide +kernel
theorem dX10_init_112 : decode cX10_init 112 = .ok (.getfield 7, 3) := by decide +kernel
theorem dX10_init_115 : decode cX10_init 115 = .ok (.bipush 13, 2) := by decide +kernel
theorem dX10_init_117 : decode cX10_init 117 = .ok (.iconst 3, 1) := by decide +kernel
theorem dX10_init_118 : decode cX10_init 118 = .ok (.iastore, 1) := by decide +kernel
theorem dX10_init_119 : decode cX10_init 119 = .ok (.aload_n 0, 1) := by decide +kernel
theorem dX10_init_120 : decode cX10_init 120 = .ok (.getfield 7, 3) := by decide +kernel
theorem dX10_init_123 : decode cX10_init 123 = .ok (.bipush 15, 2) := by decide +kernel
theorem dX10_init_125 : decode cX10_init 125 = .ok (.iconst 1, 1) := by decide +kernel
theorem dX10_init_126 : decode cX10_init 126 = .ok (.iastore, 1) := by decide +kernel
theorem dX10_init_127 : decode cX10_init 127 = .ok (.return_, 1) := by decide +kernel
set_option maxHeartbeats 4000000 in
set_option maxRecDepth 100000 in
theorem cn_X10 (G : GG) (l : Launch) (X : va_W) (h0 : Nat) : CN G l yX10_init (.code yX10_init cX10_init 1 none) 2 9 8131 [.ref h0] (X ++ [(h0, .inr (10, [.int 0, .null, .null, .int 0, .null, .null, .int 0, .null, .int 0, .int 0, .int 0, .int 0, .int 0, .int 0, .null, .int 0, .int 0, .int 0, .null, .int 0, .null, .null]))]) (fun ws' => ∃ q0 q1 q2 q3 q4 q5 q6 q7 q8 : Nat, ws' = X ++ [(h0, .inr (10, [.int 0, .ref q0, .ref q1, .int 0, .ref q2, .ref q3, .int 0, .ref q4, .int 0, .int 0, .int 0, .int 0, .int (-1), .int 0, .ref q5, .int 0, .int 0, .int 0, .ref q6, .int 0, .ref q7, .ref q8])), (q0, .inl (gcA G 0, 704, .inl (upd (upd (upd (upd (upd (fun _ => 0) (Int32.toNatClampNeg 1) (-1)) (Int32.toNatClampNeg 6) 1) (Int32.toNatClampNeg 7) 100) (Int32.toNatClampNeg 13) 3) (Int32.toNatClampNeg 15) 1))), (q1, .inl (gcA G 0, 704, .inl fun _ => 0)), (q2, .inl (gcA G 0, 304, .inl fun _ => 0)), (q3, .inl (gcA G 0, 3648, .inl fun _ => 0)), (q4, .inl (gcA G 0, 400, .inl fun _ => 0)), (q5, .inl (gcA G 0, 7, .inl fun _ => 0)), (q6, .inl (gcA G 0, 8, .inl fun _ => 0)), (q7, .inl (gcA G 0, 2304, .inl fun _ => 0)), (q8, .inl (gcA G 1, 52, .inl fun _ => 0))]) := by
  refine CN.of (own := "SaturdayKeepModel") (L0 := [some (.ref h0)]) rfl rfl rfl rfl (Nat.le_of_ble_eq_true rfl) (fun C hl hmc hms hnm hrt hC => ?_)
  subst hl
  refine bj_aload_n (pc := 0) (i := 0) hC dX10_init_0 rfl rfl ?_
  refine bj_objInit (pc := 1) hC kw1313 kw33 kw34 dX10_init_1 (by have := hC.rm; omega) (by have := hC.rm; omega) (Nat.le_of_ble_eq_true rfl) ?_
  refine bj_aload_n (pc := 4) (i := 0) hC dX10_init_4 rfl rfl ?_
  refine bj_sipush (pc := 5) (v := 704) hC dX10_init_5 sc704 ?_
  refine bj_newa (pc := 8) (atype := .int) (a0 := (704, .inl fun _ => 0)) hC 0 kw50 rfl rfl (fun _ h => by cases h) (fun _ => rfl) (by decide) (by decide) (by decide) (Nat.le_trans (by decide) hmc) (Nat.le_trans (by decide) hms) dX10_init_8 (fun q0 => ?_)
  refine bj_putF (pc := 10) hC hnm inX10 tyX10 tyX10_ok nmX10 0 rfl rfl 1 (by decide) kw1315 rfl rfl rfl rfl rfl rfl (Nat.le_of_ble_eq_true rfl) dX10_init_10 (R' := [(h0, .inr (10, [.int 0, .ref q0, .null, .int 0, .null, .null, .int 0, .null, .int 0, .int 0, .int 0, .int 0, .int 0, .int 0, .null, .int 0, .int 0, .int 0, .null, .int 0, .null, .null])), (q0, .inl (gcA G 0, 704, .inl fun _ => 0))]) rfl ?_
  refine bj_aload_n (pc := 13) (i := 0) hC dX10_init_13 rfl rfl ?_
  refine bj_sipush (pc := 14) (v := 704) hC dX10_init_14 sc704 ?_
  refine bj_newa (pc := 17) (atype := .int) (a0 := (704, .inl fun _ => 0)) hC 0 kw50 rfl rfl (fun _ h => by cases h) (fun _ => rfl) (by decide) (by decide) (by decide) (Nat.le_trans (by decide) hmc) (Nat.le_trans (by decide) hms) dX10_init_17 (fun q1 => ?_)
  refine bj_putF (pc := 19) hC hnm inX10 tyX10 tyX10_ok nmX10 0 rfl rfl 2 (by decide) kw1316 rfl rfl rfl rfl rfl rfl (Nat.le_of_ble_eq_true rfl) dX10_init_19 (R' := [(h0, .inr (10, [.int 0, .ref q0, .ref q1, .int 0, .null, .null, .int 0, .null, .int 0, .int 0, .int 0, .int 0, .int 0, .int 0, .null, .int 0, .int 0, .int 0, .null, .int 0, .null, .null])), (q0, .inl (gcA G 0, 704, .inl fun _ => 0)), (q1, .inl (gcA G 0, 704, .inl fun _ => 0))]) rfl ?_
  refine bj_aload_n (pc := 22) (i := 0) hC dX10_init_22 rfl rfl ?_
  refine bj_sipush (pc := 23) (v := 304) hC dX10_init_23 sc304 ?_
  refine bj_newa (pc := 26) (atype := .int) (a0 := (304, .inl fun _ => 0)) hC 0 kw50 rfl rfl (fun _ h => by cases h) (fun _ => rfl) (by decide) (by decide) (by decide) (Nat.le_trans (by decide) hmc) (Nat.le_trans (by decide) hms) dX10_init_26 (fun q2 => ?_)
  refine bj_putF (pc := 28) hC hnm inX10 tyX10 tyX10_ok nmX10 0 rfl rfl 4 (by decide) kw1318 rfl rfl rfl rfl rfl rfl (Nat.le_of_ble_eq_true rfl) dX10_init_28 (R' := [(h0, .inr (10, [.int 0, .ref q0, .ref q1, .int 0, .ref q2, .null, .int 0, .null, .int 0, .int 0, .int 0, .int 0, .int 0, .int 0, .null, .int 0, .int 0, .int 0, .null, .int 0, .null, .null])), (q0, .inl (gcA G 0, 704, .inl fun _ => 0)), (q1, .inl (gcA G 0, 704, .inl fun _ => 0)), (q2, .inl (gcA G 0, 304, .inl fun _ => 0))]) rfl ?_
  refine bj_aload_n (pc := 31) (i := 0) hC dX10_init_31 rfl rfl ?_
  refine bj_sipush (pc := 32) (v := 3648) hC dX10_init_32 sc3648 ?_
  refine bj_newa (pc := 35) (atype := .int) (a0 := (3648, .inl fun _ => 0)) hC 0 kw50 rfl rfl (fun _ h => by cases h) (fun _ => rfl) (by decide) (by decide) (by decide) (Nat.le_trans (by decide) hmc) (Nat.le_trans (by decide) hms) dX10_init_35 (fun q3 => ?_)
  refine bj_putF (pc := 37) hC hnm inX10 tyX10 tyX10_ok nmX10 0 rfl rfl 5 (by decide) kw1319 rfl rfl rfl rfl rfl rfl (Nat.le_of_ble_eq_true rfl) dX10_init_37 (R' := [(h0, .inr (10, [.int 0, .ref q0, .ref q1, .int 0, .ref q2, .ref q3, .int 0, .null, .int 0, .int 0, .int 0, .int 0, .int 0, .int 0, .null, .int 0, .int 0, .int 0, .null, .int 0, .null, .null])), (q0, .inl (gcA G 0, 704, .inl fun _ => 0)), (q1, .inl (gcA G 0, 704, .inl fun _ => 0)), (q2, .inl (gcA G 0, 304, .inl fun _ => 0)), (q3, .inl (gcA G 0, 3648, .inl fun _ => 0))]) rfl ?_
  refine bj_aload_n (pc := 40) (i := 0) hC dX10_init_40 rfl rfl ?_
  refine bj_sipush (pc := 41) (v := 400) hC dX10_init_41 sc400 ?_
  refine bj_newa (pc := 44) (atype := .int) (a0 := (400, .inl fun _ => 0)) hC 0 kw50 rfl rfl (fun _ h => by cases h) (fun _ => rfl) (by decide) (by decide) (by decide) (Nat.le_trans (by decide) hmc) (Nat.le_trans (by decide) hms) dX10_init_44 (fun q4 => ?_)
  refine bj_putF (pc := 46) hC hnm inX10 tyX10 tyX10_ok nmX10 0 rfl rfl 7 (by decide) kw1321 rfl rfl rfl rfl rfl rfl (Nat.le_of_ble_eq_true rfl) dX10_init_46 (R' := [(h0, .inr (10, [.int 0, .ref q0, .ref q1, .int 0, .ref q2, .ref q3, .int 0, .ref q4, .int 0, .int 0, .int 0, .int 0, .int 0, .int 0, .null, .int 0, .int 0, .int 0, .null, .int 0, .null, .null])), (q0, .inl (gcA G 0, 704, .inl fun _ => 0)), (q1, .inl (gcA G 0, 704, .inl fun _ => 0)), (q2, .inl (gcA G 0, 304, .inl fun _ => 0)), (q3, .inl (gcA G 0, 3648, .inl fun _ => 0)), (q4, .inl (gcA G 0, 400, .inl fun _ => 0))]) rfl ?_
  refine bj_aload_n (pc := 49) (i := 0) hC dX10_init_49 rfl rfl ?_
  refine bj_iconst (pc := 50) (v := (-1)) hC dX10_init_50 icm1 ?_
  refine bj_put (pc := 51) hC inX10 tyX10 tyX10_ok nmX10 0 rfl rfl 12 (by decide) kw1326 rfl rfl rfl rfl rfl (Nat.le_of_ble_eq_true rfl) dX10_init_51 (R' := [(h0, .inr (10, [.int 0, .ref q0, .ref q1, .int 0, .ref q2, .ref q3, .int 0, .ref q4, .int 0, .int 0, .int 0, .int 0, .int (-1), .int 0, .null, .int 0, .int 0, .int 0, .null, .int 0, .null, .null])), (q0, .inl (gcA G 0, 704, .inl fun _ => 0)), (q1, .inl (gcA G 0, 704, .inl fun _ => 0)), (q2, .inl (gcA G 0, 304, .inl fun _ => 0)), (q3, .inl (gcA G 0, 3648, .inl fun _ => 0)), (q4, .inl (gcA G 0, 400, .inl fun _ => 0))]) rfl ?_
  refine bj_aload_n (pc := 54) (i := 0) hC dX10_init_54 rfl rfl ?_
  refine bj_bipush (pc := 55) (v := 7) hC dX10_init_55 bc7 ?_
  refine bj_newa (pc := 57) (atype := .int) (a0 := (7, .inl fun _ => 0)) hC 0 kw50 rfl rfl (fun _ h => by cases h) (fun _ => rfl) (by decide) (by decide) (by decide) (Nat.le_trans (by decide) hmc) (Nat.le_trans (by decide) hms) dX10_init_57 (fun q5 => ?_)
  refine bj_putF (pc := 59) hC hnm inX10 tyX10 tyX10_ok nmX10 0 rfl rfl 14 (by decide) kw1328 rfl rfl rfl rfl rfl rfl (Nat.le_of_ble_eq_true rfl) dX10_init_59 (R' := [(h0, .inr (10, [.int 0, .ref q0, .ref q1, .int 0, .ref q2, .ref q3, .int 0, .ref q4, .int 0, .int 0, .int 0, .int 0, .int (-1), .int 0, .ref q5, .int 0, .int 0, .int 0, .null, .int 0, .null, .null])), (q0, .inl (gcA G 0, 704, .inl fun _ => 0)), (q1, .inl (gcA G 0, 704, .inl fun _ => 0)), (q2, .inl (gcA G 0, 304, .inl fun _ => 0)), (q3, .inl (gcA G 0, 3648, .inl fun _ => 0)), (q4, .inl (gcA G 0, 400, .inl fun _ => 0)), (q5, .inl (gcA G 0, 7, .inl fun _ => 0))]) rfl ?_
  refine bj_aload_n (pc := 62) (i := 0) hC dX10_init_62 rfl rfl ?_
  refine bj_bipush (pc := 63) (v := 8) hC dX10_init_63 bc8 ?_
  refine bj_newa (pc := 65) (atype := .int) (a0 := (8, .inl fun _ => 0)) hC 0 kw50 rfl rfl (fun _ h => by cases h) (fun _ => rfl) (by decide) (by decide) (by decide) (Nat.le_trans (by decide) hmc) (Nat.le_trans (by decide) hms) dX10_init_65 (fun q6 => ?_)
  refine bj_putF (pc := 67) hC hnm inX10 tyX10 tyX10_ok nmX10 0 rfl rfl 18 (by decide) kw1332 rfl rfl rfl rfl rfl rfl (Nat.le_of_ble_eq_true rfl) dX10_init_67 (R' := [(h0, .inr (10, [.int 0, .ref q0, .ref q1, .int 0, .ref q2, .ref q3, .int 0, .ref q4, .int 0, .int 0, .int 0, .int 0, .int (-1), .int 0, .ref q5, .int 0, .int 0, .int 0, .ref q6, .int 0, .null, .null])), (q0, .inl (gcA G 0, 704, .inl fun _ => 0)), (q1, .inl (gcA G 0, 704, .inl fun _ => 0)), (q2, .inl (gcA G 0, 304, .inl fun _ => 0)), (q3, .inl (gcA G 0, 3648, .inl fun _ => 0)), (q4, .inl (gcA G 0, 400, .inl fun _ => 0)), (q5, .inl (gcA G 0, 7, .inl fun _ => 0)), (q6, .inl (gcA G 0, 8, .inl fun _ => 0))]) rfl ?_
  refine bj_aload_n (pc := 70) (i := 0) hC dX10_init_70 rfl rfl ?_
  refine bj_sipush (pc := 71) (v := 2304) hC dX10_init_71 sc2304 ?_
  refine bj_newa (pc := 74) (atype := .int) (a0 := (2304, .inl fun _ => 0)) hC 0 kw50 rfl rfl (fun _ h => by cases h) (fun _ => rfl) (by decide) (by decide) (by decide) (Nat.le_trans (by decide) hmc) (Nat.le_trans (by decide) hms) dX10_init_74 (fun q7 => ?_)
  refine bj_putF (pc := 76) hC hnm inX10 tyX10 tyX10_ok nmX10 0 rfl rfl 20 (by decide) kw1334 rfl rfl rfl rfl rfl rfl (Nat.le_of_ble_eq_true rfl) dX10_init_76 (R' := [(h0, .inr (10, [.int 0, .ref q0, .ref q1, .int 0, .ref q2, .ref q3, .int 0, .ref q4, .int 0, .int 0, .int 0, .int 0, .int (-1), .int 0, .ref q5, .int 0, .int 0, .int 0, .ref q6, .int 0, .ref q7, .null])), (q0, .inl (gcA G 0, 704, .inl fun _ => 0)), (q1, .inl (gcA G 0, 704, .inl fun _ => 0)), (q2, .inl (gcA G 0, 304, .inl fun _ => 0)), (q3, .inl (gcA G 0, 3648, .inl fun _ => 0)), (q4, .inl (gcA G 0, 400, .inl fun _ => 0)), (q5, .inl (gcA G 0, 7, .inl fun _ => 0)), (q6, .inl (gcA G 0, 8, .inl fun _ => 0)), (q7, .inl (gcA G 0, 2304, .inl fun _ => 0))]) rfl ?_
  refine bj_aload_n (pc := 79) (i := 0) hC dX10_init_79 rfl rfl ?_
  refine bj_bipush (pc := 80) (v := 52) hC dX10_init_80 bc52 ?_
  refine bj_newa (pc := 82) (atype := .boolean) (a0 := (52, .inl fun _ => 0)) hC 1 kw1381 rfl rfl (fun _ h => by cases h) (fun _ => rfl) (by decide) (by decide) (by decide) (Nat.le_trans (by decide) hmc) (Nat.le_trans (by decide) hms) dX10_init_82 (fun q8 => ?_)
  refine bj_putF (pc := 84) hC hnm inX10 tyX10 tyX10_ok nmX10 0 rfl rfl 21 (by decide) kw1335 rfl rfl rfl rfl rfl rfl (Nat.le_of_ble_eq_true rfl) dX10_init_84 (R' := [(h0, .inr (10, [.int 0, .ref q0, .ref q1, .int 0, .ref q2, .ref q3, .int 0, .ref q4, .int 0, .int 0, .int 0, .int 0, .int (-1), .int 0, .ref q5, .int 0, .int 0, .int 0, .ref q6, .int 0, .ref q7, .ref q8])), (q0, .inl (gcA G 0, 704, .inl fun _ => 0)), (q1, .inl (gcA G 0, 704, .inl fun _ => 0)), (q2, .inl (gcA G 0, 304, .inl fun _ => 0)), (q3, .inl (gcA G 0, 3648, .inl fun _ => 0)), (q4, .inl (gcA G 0, 400, .inl fun _ => 0)), (q5, .inl (gcA G 0, 7, .inl fun _ => 0)), (q6, .inl (gcA G 0, 8, .inl fun _ => 0)), (q7, .inl (gcA G 0, 2304, .inl fun _ => 0)), (q8, .inl (gcA G 1, 52, .inl fun _ => 0))]) rfl ?_
  refine bj_aload_n (pc := 87) (i := 0) hC dX10_init_87 rfl rfl ?_
  refine bj_get (pc := 88) hC inX10 0 rfl rfl 1 (by decide) kw1315 rfl rfl dX10_init_88 ?_
  refine bj_iconst (pc := 91) (v := 1) hC dX10_init_91 ic1 ?_
  refine bj_iconst (pc := 92) (v := (-1)) hC dX10_init_92 icm1 ?_
  refine bj_iast (pc := 93) hC 1 rfl (vp_in_iff.mpr (by decide)) dX10_init_93 (R' := [(h0, .inr (10, [.int 0, .ref q0, .ref q1, .int 0, .ref q2, .ref q3, .int 0, .ref q4, .int 0, .int 0, .int 0, .int 0, .int (-1), .int 0, .ref q5, .int 0, .int 0, .int 0, .ref q6, .int 0, .ref q7, .ref q8])), (q0, .inl (gcA G 0, 704, .inl (upd (fun _ => 0) (Int32.toNatClampNeg 1) (-1)))), (q1, .inl (gcA G 0, 704, .inl fun _ => 0)), (q2, .inl (gcA G 0, 304, .inl fun _ => 0)), (q3, .inl (gcA G 0, 3648, .inl fun _ => 0)), (q4, .inl (gcA G 0, 400, .inl fun _ => 0)), (q5, .inl (gcA G 0, 7, .inl fun _ => 0)), (q6, .inl (gcA G 0, 8, .inl fun _ => 0)), (q7, .inl (gcA G 0, 2304, .inl fun _ => 0)), (q8, .inl (gcA G 1, 52, .inl fun _ => 0))]) rfl ?_
  refine bj_aload_n (pc := 94) (i := 0) hC dX10_init_94 rfl rfl ?_
  refine bj_get (pc := 95) hC inX10 0 rfl rfl 1 (by decide) kw1315 rfl rfl dX10_init_95 ?_
  refine bj_bipush (pc := 98) (v := 6) hC dX10_init_98 bc6 ?_
  refine bj_iconst (pc := 100) (v := 1) hC dX10_init_100 ic1 ?_
  refine bj_iast (pc := 101) hC 1 rfl (vp_in_iff.mpr (by decide)) dX10_init_101 (R' := [(h0, .inr (10, [.int 0, .ref q0, .ref q1, .int 0, .ref q2, .ref q3, .int 0, .ref q4, .int 0, .int 0, .int 0, .int 0, .int (-1), .int 0, .ref q5, .int 0, .int 0, .int 0, .ref q6, .int 0, .ref q7, .ref q8])), (q0, .inl (gcA G 0, 704, .inl (upd (upd (fun _ => 0) (Int32.toNatClampNeg 1) (-1)) (Int32.toNatClampNeg 6) 1))), (q1, .inl (gcA G 0, 704, .inl fun _ => 0)), (q2, .inl (gcA G 0, 304, .inl fun _ => 0)), (q3, .inl (gcA G 0, 3648, .inl fun _ => 0)), (q4, .inl (gcA G 0, 400, .inl fun _ => 0)), (q5, .inl (gcA G 0, 7, .inl fun _ => 0)), (q6, .inl (gcA G 0, 8, .inl fun _ => 0)), (q7, .inl (gcA G 0, 2304, .inl fun _ => 0)), (q8, .inl (gcA G 1, 52, .inl fun _ => 0))]) rfl ?_
  refine bj_aload_n (pc := 102) (i := 0) hC dX10_init_102 rfl rfl ?_
  refine bj_get (pc := 103) hC inX10 0 rfl rfl 1 (by decide) kw1315 rfl rfl dX10_init_103 ?_
  refine bj_bipush (pc := 106) (v := 7) hC dX10_init_106 bc7 ?_
  refine bj_bipush (pc := 108) (v := 100) hC dX10_init_108 bc100 ?_
  refine bj_iast (pc := 110) hC 1 rfl (vp_in_iff.mpr (by decide)) dX10_init_110 (R' := [(h0, .inr (10, [.int 0, .ref q0, .ref q1, .int 0, .ref q2, .ref q3, .int 0, .ref q4, .int 0, .int 0, .int 0, .int 0, .int (-1), .int 0, .ref q5, .int 0, .int 0, .int 0, .ref q6, .int 0, .ref q7, .ref q8])), (q0, .inl (gcA G 0, 704, .inl (upd (upd (upd (fun _ => 0) (Int32.toNatClampNeg 1) (-1)) (Int32.toNatClampNeg 6) 1) (Int32.toNatClampNeg 7) 100))), (q1, .inl (gcA G 0, 704, .inl fun _ => 0)), (q2, .inl (gcA G 0, 304, .inl fun _ => 0)), (q3, .inl (gcA G 0, 3648, .inl fun _ => 0)), (q4, .inl (gcA G 0, 400, .inl fun _ => 0)), (q5, .inl (gcA G 0, 7, .inl fun _ => 0)), (q6, .inl (gcA G 0, 8, .inl fun _ => 0)), (q7, .inl (gcA G 0, 2304, .inl fun _ => 0)), (q8, .inl (gcA G 1, 52, .inl fun _ => 0))]) rfl ?_
  refine bj_aload_n (pc := 111) (i := 0) hC dX10_init_111 rfl rfl ?_
  refine bj_get (pc := 112) hC inX10 0 rfl rfl 1 (by decide) kw1315 rfl rfl dX10_init_112 ?_
  refine bj_bipush (pc := 115) (v := 13) hC dX10_init_115 bc13 ?_
  refine bj_iconst (pc := 117) (v := 3) hC dX10_init_117 ic3 ?_
  refine bj_iast (pc := 118) hC 1 rfl (vp_in_iff.mpr (by decide)) dX10_init_118 (R' := [(h0, .inr (10, [.int 0, .ref q0, .ref q1, .int 0, .ref q2, .ref q3, .int 0, .ref q4, .int 0, .int 0, .int 0, .int 0, .int (-1), .int 0, .ref q5, .int 0, .int 0, .int 0, .ref q6, .int 0, .ref q7, .ref q8])), (q0, .inl (gcA G 0, 704, .inl (upd (upd (upd (upd (fun _ => 0) (Int32.toNatClampNeg 1) (-1)) (Int32.toNatClampNeg 6) 1) (Int32.toNatClampNeg 7) 100) (Int32.toNatClampNeg 13) 3))), (q1, .inl (gcA G 0, 704, .inl fun _ => 0)), (q2, .inl (gcA G 0, 304, .inl fun _ => 0)), (q3, .inl (gcA G 0, 3648, .inl fun _ => 0)), (q4, .inl (gcA G 0, 400, .inl fun _ => 0)), (q5, .inl (gcA G 0, 7, .inl fun _ => 0)), (q6, .inl (gcA G 0, 8, .inl fun _ => 0)), (q7, .inl (gcA G 0, 2304, .inl fun _ => 0)), (q8, .inl (gcA G 1, 52, .inl fun _ => 0))]) rfl ?_
  refine bj_aload_n (pc := 119) (i := 0) hC dX10_init_119 rfl rfl ?_
  refine bj_get (pc := 120) hC inX10 0 rfl rfl 1 (by decide) kw1315 rfl rfl dX10_init_120 ?_
  refine bj_bipush (pc := 123) (v := 15) hC dX10_init_123 bc15 ?_
  refine bj_iconst (pc := 125) (v := 1) hC dX10_init_125 ic1 ?_
  refine bj_iast (pc := 126) hC 1 rfl (vp_in_iff.mpr (by decide)) dX10_init_126 (R' := [(h0, .inr (10, [.int 0, .ref q0, .ref q1, .int 0, .ref q2, .ref q3, .int 0, .ref q4, .int 0, .int 0, .int 0, .int 0, .int (-1), .int 0, .ref q5, .int 0, .int 0, .int 0, .ref q6, .int 0, .ref q7, .ref q8])), (q0, .inl (gcA G 0, 704, .inl (upd (upd (upd (upd (upd (fun _ => 0) (Int32.toNatClampNeg 1) (-1)) (Int32.toNatClampNeg 6) 1) (Int32.toNatClampNeg 7) 100) (Int32.toNatClampNeg 13) 3) (Int32.toNatClampNeg 15) 1))), (q1, .inl (gcA G 0, 704, .inl fun _ => 0)), (q2, .inl (gcA G 0, 304, .inl fun _ => 0)), (q3, .inl (gcA G 0, 3648, .inl fun _ => 0)), (q4, .inl (gcA G 0, 400, .inl fun _ => 0)), (q5, .inl (gcA G 0, 7, .inl fun _ => 0)), (q6, .inl (gcA G 0, 8, .inl fun _ => 0)), (q7, .inl (gcA G 0, 2304, .inl fun _ => 0)), (q8, .inl (gcA G 1, 52, .inl fun _ => 0))]) rfl ?_
  exact bj_ret (pc := 127) hC hrt dX10_init_127 (⟨q0, q1, q2, q3, q4, q5, q6, q7, q8, rfl⟩)
theorem dX9_init_0 : decode cX9_init 0 = .ok (.aload_n 0, 1) := by decide +kernel
theorem dX9_init_1 : decode cX9_init 1 = .ok (.invokespecial 1, 3) := by decide +kernel
theorem dX9_init_4 : decode cX9_init 4 = .ok (.aload_n 0, 1) := by decide +kernel
theorem dX9_init_5 : decode cX9_init 5 = .ok (.new 7, 3) := by decide +kernel
theorem dX9_init_8 : decode cX9_init 8 = .ok (.dup, 1) := by decide +kernel
theorem dX9_init_9 : decode cX9_init 9 = .ok (.invokespecial 9, 3) := by decide +kernel
theorem dX9_init_12 : decode cX9_init 12 = .ok (.putfield 10, 3) := by decide +kernel
theorem dX9_init_15 : decode cX9_init 15 = .ok (.aload_n 0, 1) := by decide +kernel
theorem dX9_init_16 : decode cX9_init 16 = .ok (.new 16, 3) := by decide +kernel
theorem dX9_init_19 : decode cX9_init 19 = .ok (.dup, 1) := by decide +kernel
theorem dX9_init_20 : decode cX9_init 20 = .ok (.invokespecial 18, 3) := by decide +kernel
theorem dX9_init_23 : decode cX9_init 23 = .ok (.putfield 19, 3) := by decide +kernel
theorem dX9_init_26 : decode cX9_init 26 = .ok (.aload_n 0, 1) := by decide +kernel
theorem dX9_init_27 : decode cX9_init 27 = .ok (.new 23, 3) := by decide +kernel
theorem dX9_init_30 : decode cX9_init 30 = .ok (.dup, 1) := by decide +kernel
theorem dX9_init_31 : decode cX9_init 31 = .ok (.aload_n 0, 1) := by decide +kernel
theorem dX9_init_32 : decode cX9_init 32 = .ok (.getfield 19, 3) := by decide +kernel
theorem dX9_init_35 : decode cX9_init 35 = .ok (.invokespecial 25, 3) := by decide +kernel
theorem dX9_init_38 : decode cX9_init 38 = .ok (.putfield 28, 3) := by decide +kernel
theorem dX9_init_41 : decode cX9_init 41 = .ok (.aload_n 0, 1) := by decide +kernel
theorem dX9_init_42 : decode cX9_init 42 = .ok (.new 32, 3) := by decide +kernel
theorem dX9_init_45 : decode cX9_init 45 = .ok (.dup, 1) := by decide +kernel
theorem dX9_init_46 : decode cX9_init 46 = .ok (.aload_n 0, 1) := by decide +kernel
theorem dX9_init_47 : decode cX9_init 47 = .ok (.getfield 19, 3) := by decide +kernel
theorem dX9_init_50 : decode cX9_init 50 = .ok (.invokespecial 34, 3) := by decide +kernel
theorem dX9_init_53 : decode cX9_init 53 = .ok (.putfield 35, 3) := by decide +kernel
theorem dX9_init_56 : decode cX9_init 56 = .ok (.aload_n 0, 1) := by decide +kernel
theorem dX9_init_57 : decode cX9_init 57 = .ok (.new 39, 3) := by decide +kernel
theorem dX9_init_60 : decode cX9_init 60 = .ok (.dup, 1) := by decide +kernel
theorem dX9_init_61 : decode cX9_init 61 = .ok (.invokespecial 41, 3) := by decide +kernel
theorem dX9_init_64 : decode cX9_init 64 = .ok (.putfield 42, 3) := by decide +kernel
theorem dX9_init_67 : decode cX9_init 67 = .ok (.aload_n 0, 1) := by decide +kernel
theorem dX9_init_68 : decode cX9_init 68 = .ok (.new 39, 3) := by decide +kernel
theorem dX9_init_71 : decode cX9_init 71 = .ok (.dup, 1) := by decide +kernel
theorem dX9_init_72 : decode cX9_init 72 = .ok (.invokespecial 41, 3) := by decide +kernel
theorem dX9_init_75 : decode cX9_init 75 = .ok (.putfield 46, 3) := by decide +kernel
theorem dX9_init_78 : decode cX9_init 78 = .ok (.aload_n 0, 1) := by decide +kernel
theorem dX9_init_79 : decode cX9_init 79 = .ok (.new 39, 3) := by decide +kernel
theorem dX9_init_82 : decode cX9_init 82 = .ok (.dup, 1) := by decide +kernel
theorem dX9_init_83 : decode cX9_init 83 = .ok (.invokespecial 41, 3) := by decide +kernel
theorem dX9_init_86 : decode cX9_init 86 = .ok (.putfield 49, 3) := by decide +kernel
theorem dX9_init_89 : decode cX9_init 89 = .ok (.aload_n 0, 1) := by decide +kernel
theorem dX9_init_90 : decode cX9_init 90 = .ok (.new 52, 3) := by decide +kernel
theorem dX9_init_93 : decode cX9_init 93 = .ok (.dup, 1) := by decide +kernel
theorem dX9_init_94 : decode cX9_init 94 = .ok (.invokespecial 54, 3) := by decide +kernel
theorem dX9_init_97 : decode cX9_init 97 = .ok (.putfield 55, 3) := by decide +kernel
theorem dX9_init_100 : decode cX9_init 100 = .ok (.aload_n 0, 1) := by decide +kernel
theorem dX9_init_101 : decode cX9_init 101 = .ok (.sipush 256, 3) := by decide +kernel
theorem dX9_init_104 : decode cX9_init 104 = .ok (.newarray .int, 2) := by decide +kernel
theorem dX9_init_106 : decode cX9_init 106 = .ok (.putfield 59, 3) := by decide +kernel
theorem dX9_init_109 : decode cX9_init 109 = .ok (.aload_n 0, 1) := by decide +kernel
theorem dX9_init_110 : decode cX9_init 110 = .ok (.iconst 0, 1) := by decide +kernel
theorem dX9_init_111 : decode cX9_init 111 = .ok (.putfield 63, 3) := by decide +kernel
theorem dX9_init_114 : decode cX9_init 114 = .ok (.aload_n 0, 1) := by decide +kernel
theorem dX9_init_115 : decode cX9_init 115 = .ok (.iconst (-1), 1) := by decide +kernel
theorem dX9_init_116 : decode cX9_init 116 = .ok (.putfield 67, 3) := by decide +kernel
theorem dX9_init_119 : decode cX9_init 119 = .ok (.return_, 1) := by decide +kernel
set_option maxHeartbeats 4000000 in
set_option maxRecDepth 100000 in
theorem cn_X9 (G : GG) (l : Launch) (X : va_W) (h0 : Nat) : CN G l yX9_init (.code yX9_init cX9_init 1 none) 8 194 13482 [.ref h0] (X ++ [(h0, .inr (9, [.null, .null, .null, .null, .null, .null, .null, .null, .null, .int 0, .int 0]))]) (fun ws' => ∃ (q0 c2 q2 e4 f4 g4 q4 q5 u7 p7 k7 : Nat) (q7 : Nat) (a9 : Nat → Nat) (q9 : Nat) (a11 : Nat → Nat) (q11 : Nat) (a13 : Nat → Nat) (q13 b15 : Nat) (z15 : Nat → Nat) (y15 : Nat → Nat → Nat) (q15 : Nat), ws' = X ++ ((((([(h0, .inr (9, [.ref q0, .ref q2, .ref q4, .ref q5, .ref q7, .ref q9, .ref q11, .ref q13, .ref q15, .int 0, .int (-1)])), (q0, .inr (7, [.ref c2, .int 0])), (c2, .inl (gcA G 0, 400, .inl fun _ => 0)), (q2, .inr (8, [.ref e4, .ref f4, .ref g4, .int 0, .int 0, .int 0])), (e4, .inl (gcA G 0, 401, .inl fun _ => 0)), (f4, .inl (gcA G 0, 401, .inl fun _ => 0)), (g4, .inl (gcA G 0, 401, .inl fun _ => 0)), (q4, .inr (3, [.ref q2])), (q5, .inr (5, [.ref q2, .ref u7])), (u7, .inr (4, [.ref p7, .ref k7, .int 0, .int 0, .int (-1)])), (p7, .inl (gcA G 0, 400, .inl fun _ => 0)), (k7, .inl (gcA G 0, 32, .inl fun _ => 0))] ++ hsL G q7 a9) ++ hsL G q9 a11) ++ hsL G q11 a13) ++ psL G q13 b15 z15 y15) ++ [(q15, .inl (gcA G 0, 256, .inl fun _ => 0))])) := by
  refine CN.of (own := "SaturdayKeep") (L0 := [some (.ref h0)]) rfl rfl rfl rfl (Nat.le_of_ble_eq_true rfl) (fun C hl hmc hms hnm hrt hC => ?_)
  subst hl
  refine bj_aload_n (pc := 0) (i := 0) hC dX9_init_0 rfl rfl ?_
  refine bj_objInit (pc := 1) hC kw32 kw33 kw34 dX9_init_1 (by have := hC.rm; omega) (by have := hC.rm; omega) (Nat.le_of_ble_eq_true rfl) ?_
  refine bj_aload_n (pc := 4) (i := 0) hC dX9_init_4 rfl rfl ?_
  refine bj_new (pc := 5) (ci := 7) (fs := [.null, .int 0]) hC inX7 tyX7 tyX7_ok kw35 kw36 kw2 rfl dfX7 (Nat.le_trans (by decide) hmc) (Nat.le_trans (by decide) hms) dX9_init_5 (fun q0 => ?_)
  refine bj_dup (pc := 8) hC dX9_init_8 ?_
  refine bj_callN (pc := 9) (As := []) (n := 0) (lv := 2) hC kw37 kw39 kw2 kw38 rfl ⟨by decide, by decide, by decide +kernel⟩ (by decide) (by decide) (by rw [← List.append_assoc]; exact cn_X7 G C.2.1 (X ++ [(h0, .inr (9, [.null, .null, .null, .null, .null, .null, .null, .null, .null, .int 0, .int 0]))]) q0 ) rfl (Nat.le_of_ble_eq_true rfl) (Nat.le_trans (by decide) hmc) (Nat.le_trans (by decide) hms) dX9_init_9 (fun ws1 hw1 => ?_)
  obtain ⟨c2, rfl⟩ := hw1
  refine ⟨[(h0, .inr (9, [.null, .null, .null, .null, .null, .null, .null, .null, .null, .int 0, .int 0])), (q0, .inr (7, [.ref c2, .int 0])), (c2, .inl (gcA G 0, 400, .inl fun _ => 0))], by first | (rw [List.append_assoc]; done) | (rw [List.append_assoc]; rfl), ?_⟩
  refine bj_putF (pc := 12) hC hnm inX9 tyX9 tyX9_ok nmX9 0 rfl rfl 0 (by decide) kw276 rfl rfl rfl rfl rfl rfl (Nat.le_of_ble_eq_true rfl) dX9_init_12 (R' := [(h0, .inr (9, [.ref q0, .null, .null, .null, .null, .null, .null, .null, .null, .int 0, .int 0])), (q0, .inr (7, [.ref c2, .int 0])), (c2, .inl (gcA G 0, 400, .inl fun _ => 0))]) rfl ?_
  refine bj_aload_n (pc := 15) (i := 0) hC dX9_init_15 rfl rfl ?_
  refine bj_new (pc := 16) (ci := 8) (fs := [.null, .null, .null, .int 0, .int 0, .int 0]) hC inX8 tyX8 tyX8_ok kw51 kw52 kw3 rfl dfX8 (Nat.le_trans (by decide) hmc) (Nat.le_trans (by decide) hms) dX9_init_16 (fun q2 => ?_)
  refine bj_dup (pc := 19) hC dX9_init_19 ?_
  refine bj_callN (pc := 20) (As := []) (n := 0) (lv := 2) hC kw53 kw55 kw3 kw54 rfl ⟨by decide, by decide, by decide +kernel⟩ (by decide) (by decide) (by rw [← List.append_assoc]; exact cn_X8 G C.2.1 (X ++ [(h0, .inr (9, [.ref q0, .null, .null, .null, .null, .null, .null, .null, .null, .int 0, .int 0])), (q0, .inr (7, [.ref c2, .int 0])), (c2, .inl (gcA G 0, 400, .inl fun _ => 0))]) q2 ) rfl (Nat.le_of_ble_eq_true rfl) (Nat.le_trans (by decide) hmc) (Nat.le_trans (by decide) hms) dX9_init_20 (fun ws1 hw1 => ?_)
  obtain ⟨e4, f4, g4, rfl⟩ := hw1
  refine ⟨[(h0, .inr (9, [.ref q0, .null, .null, .null, .null, .null, .null, .null, .null, .int 0, .int 0])), (q0, .inr (7, [.ref c2, .int 0])), (c2, .inl (gcA G 0, 400, .inl fun _ => 0)), (q2, .inr (8, [.ref e4, .ref f4, .ref g4, .int 0, .int 0, .int 0])), (e4, .inl (gcA G 0, 401, .inl fun _ => 0)), (f4, .inl (gcA G 0, 401, .inl fun _ => 0)), (g4, .inl (gcA G 0, 401, .inl fun _ => 0))], by first | (rw [List.append_assoc]; done) | (rw [List.append_assoc]; rfl), ?_⟩
  refine bj_putF (pc := 23) hC hnm inX9 tyX9 tyX9_ok nmX9 0 rfl rfl 1 (by decide) kw277 rfl rfl rfl rfl rfl rfl (Nat.le_of_ble_eq_true rfl) dX9_init_23 (R' := [(h0, .inr (9, [.ref q0, .ref q2, .null, .null, .null, .null, .null, .null, .null, .int 0, .int 0])), (q0, .inr (7, [.ref c2, .int 0])), (c2, .inl (gcA G 0, 400, .inl fun _ => 0)), (q2, .inr (8, [.ref e4, .ref f4, .ref g4, .int 0, .int 0, .int 0])), (e4, .inl (gcA G 0, 401, .inl fun _ => 0)), (f4, .inl (gcA G 0, 401, .inl fun _ => 0)), (g4, .inl (gcA G 0, 401, .inl fun _ => 0))]) rfl ?_
  refine bj_aload_n (pc := 26) (i := 0) hC dX9_init_26 rfl rfl ?_
  refine bj_new (pc := 27) (ci := 3) (fs := [.null]) hC inX3 tyX3 tyX3_ok kw79 kw80 kw4 rfl dfX3 (Nat.le_trans (by decide) hmc) (Nat.le_trans (by decide) hms) dX9_init_27 (fun q4 => ?_)
  refine bj_dup (pc := 30) hC dX9_init_30 ?_
  refine bj_aload_n (pc := 31) (i := 0) hC dX9_init_31 rfl rfl ?_
  refine bj_get (pc := 32) hC inX9 0 rfl rfl 1 (by decide) kw277 rfl rfl dX9_init_32 ?_
  refine bj_callI (pc := 35) (As := [.ref q2]) (n := 1) (lv := 2) hC kw81 kw83 kw4 kw82 rfl ⟨by decide, by decide, by decide +kernel⟩ (by decide) (by decide) (by rw [← List.append_assoc]; exact cn_X3 G C.2.1 (X ++ [(h0, .inr (9, [.ref q0, .ref q2, .null, .null, .null, .null, .null, .null, .null, .int 0, .int 0])), (q0, .inr (7, [.ref c2, .int 0])), (c2, .inl (gcA G 0, 400, .inl fun _ => 0)), (q2, .inr (8, [.ref e4, .ref f4, .ref g4, .int 0, .int 0, .int 0])), (e4, .inl (gcA G 0, 401, .inl fun _ => 0)), (f4, .inl (gcA G 0, 401, .inl fun _ => 0)), (g4, .inl (gcA G 0, 401, .inl fun _ => 0))]) q4 q2) rfl (Nat.le_of_ble_eq_true rfl) (Nat.le_trans (by decide) hmc) (Nat.le_trans (by decide) hms) dX9_init_35 (fun ws1 hw1 => ?_)
  obtain rfl := hw1
  refine ⟨[(h0, .inr (9, [.ref q0, .ref q2, .null, .null, .null, .null, .null, .null, .null, .int 0, .int 0])), (q0, .inr (7, [.ref c2, .int 0])), (c2, .inl (gcA G 0, 400, .inl fun _ => 0)), (q2, .inr (8, [.ref e4, .ref f4, .ref g4, .int 0, .int 0, .int 0])), (e4, .inl (gcA G 0, 401, .inl fun _ => 0)), (f4, .inl (gcA G 0, 401, .inl fun _ => 0)), (g4, .inl (gcA G 0, 401, .inl fun _ => 0)), (q4, .inr (3, [.ref q2]))], by first | (rw [List.append_assoc]; done) | (rw [List.append_assoc]; rfl), ?_⟩
  refine bj_putF (pc := 38) hC hnm inX9 tyX9 tyX9_ok nmX9 0 rfl rfl 2 (by decide) kw278 rfl rfl rfl rfl rfl rfl (Nat.le_of_ble_eq_true rfl) dX9_init_38 (R' := [(h0, .inr (9, [.ref q0, .ref q2, .ref q4, .null, .null, .null, .null, .null, .null, .int 0, .int 0])), (q0, .inr (7, [.ref c2, .int 0])), (c2, .inl (gcA G 0, 400, .inl fun _ => 0)), (q2, .inr (8, [.ref e4, .ref f4, .ref g4, .int 0, .int 0, .int 0])), (e4, .inl (gcA G 0, 401, .inl fun _ => 0)), (f4, .inl (gcA G 0, 401, .inl fun _ => 0)), (g4, .inl (gcA G 0, 401, .inl fun _ => 0)), (q4, .inr (3, [.ref q2]))]) rfl ?_
  refine bj_aload_n (pc := 41) (i := 0) hC dX9_init_41 rfl rfl ?_
  refine bj_new (pc := 42) (ci := 5) (fs := [.null, .null]) hC inX5 tyX5 tyX5_ok kw89 kw90 kw5 rfl dfX5 (Nat.le_trans (by decide) hmc) (Nat.le_trans (by decide) hms) dX9_init_42 (fun q5 => ?_)
  refine bj_dup (pc := 45) hC dX9_init_45 ?_
  refine bj_aload_n (pc := 46) (i := 0) hC dX9_init_46 rfl rfl ?_
  refine bj_get (pc := 47) hC inX9 0 rfl rfl 1 (by decide) kw277 rfl rfl dX9_init_47 ?_
  refine bj_callI (pc := 50) (As := [.ref q2]) (n := 1) (lv := 4) hC kw91 kw93 kw5 kw92 rfl ⟨by decide, by decide, by decide +kernel⟩ (by decide) (by decide) (by rw [← List.append_assoc]; exact cn_X5 G C.2.1 (X ++ [(h0, .inr (9, [.ref q0, .ref q2, .ref q4, .null, .null, .null, .null, .null, .null, .int 0, .int 0])), (q0, .inr (7, [.ref c2, .int 0])), (c2, .inl (gcA G 0, 400, .inl fun _ => 0)), (q2, .inr (8, [.ref e4, .ref f4, .ref g4, .int 0, .int 0, .int 0])), (e4, .inl (gcA G 0, 401, .inl fun _ => 0)), (f4, .inl (gcA G 0, 401, .inl fun _ => 0)), (g4, .inl (gcA G 0, 401, .inl fun _ => 0)), (q4, .inr (3, [.ref q2]))]) q5 q2) rfl (Nat.le_of_ble_eq_true rfl) (Nat.le_trans (by decide) hmc) (Nat.le_trans (by decide) hms) dX9_init_50 (fun ws1 hw1 => ?_)
  obtain ⟨u7, p7, k7, rfl⟩ := hw1
  refine ⟨[(h0, .inr (9, [.ref q0, .ref q2, .ref q4, .null, .null, .null, .null, .null, .null, .int 0, .int 0])), (q0, .inr (7, [.ref c2, .int 0])), (c2, .inl (gcA G 0, 400, .inl fun _ => 0)), (q2, .inr (8, [.ref e4, .ref f4, .ref g4, .int 0, .int 0, .int 0])), (e4, .inl (gcA G 0, 401, .inl fun _ => 0)), (f4, .inl (gcA G 0, 401, .inl fun _ => 0)), (g4, .inl (gcA G 0, 401, .inl fun _ => 0)), (q4, .inr (3, [.ref q2])), (q5, .inr (5, [.ref q2, .ref u7])), (u7, .inr (4, [.ref p7, .ref k7, .int 0, .int 0, .int (-1)])), (p7, .inl (gcA G 0, 400, .inl fun _ => 0)), (k7, .inl (gcA G 0, 32, .inl fun _ => 0))], by first | (rw [List.append_assoc]; done) | (rw [List.append_assoc]; rfl), ?_⟩
  refine bj_putF (pc := 53) hC hnm inX9 tyX9 tyX9_ok nmX9 0 rfl rfl 3 (by decide) kw279 rfl rfl rfl rfl rfl rfl (Nat.le_of_ble_eq_true rfl) dX9_init_53 (R' := [(h0, .inr (9, [.ref q0, .ref q2, .ref q4, .ref q5, .null, .null, .null, .null, .null, .int 0, .int 0])), (q0, .inr (7, [.ref c2, .int 0])), (c2, .inl (gcA G 0, 400, .inl fun _ => 0)), (q2, .inr (8, [.ref e4, .ref f4, .ref g4, .int 0, .int 0, .int 0])), (e4, .inl (gcA G 0, 401, .inl fun _ => 0)), (f4, .inl (gcA G 0, 401, .inl fun _ => 0)), (g4, .inl (gcA G 0, 401, .inl fun _ => 0)), (q4, .inr (3, [.ref q2])), (q5, .inr (5, [.ref q2, .ref u7])), (u7, .inr (4, [.ref p7, .ref k7, .int 0, .int 0, .int (-1)])), (p7, .inl (gcA G 0, 400, .inl fun _ => 0)), (k7, .inl (gcA G 0, 32, .inl fun _ => 0))]) rfl ?_
  refine bj_aload_n (pc := 56) (i := 0) hC dX9_init_56 rfl rfl ?_
  refine bj_new (pc := 57) (ci := 2) (fs := [.null, .null, .null, .null, .null, .int 0, .int 0, .int 0, .int 0, .int 0, .int 0, .int 0, .int 0, .int 0, .int 0, .int 0, .int 0]) hC inX2 tyX2 tyX2_ok kw128 kw129 kw7 rfl dfX2 (Nat.le_trans (by decide) hmc) (Nat.le_trans (by decide) hms) dX9_init_57 (fun q7 => ?_)
  refine bj_dup (pc := 60) hC dX9_init_60 ?_
  refine bj_callN (pc := 61) (As := []) (n := 0) (lv := 4) hC kw130 kw132 kw7 kw131 rfl ⟨by decide, by decide, by decide +kernel⟩ (by decide) (by decide) (by rw [← List.append_assoc]; exact cn_X2 G C.2.1 (X ++ [(h0, .inr (9, [.ref q0, .ref q2, .ref q4, .ref q5, .null, .null, .null, .null, .null, .int 0, .int 0])), (q0, .inr (7, [.ref c2, .int 0])), (c2, .inl (gcA G 0, 400, .inl fun _ => 0)), (q2, .inr (8, [.ref e4, .ref f4, .ref g4, .int 0, .int 0, .int 0])), (e4, .inl (gcA G 0, 401, .inl fun _ => 0)), (f4, .inl (gcA G 0, 401, .inl fun _ => 0)), (g4, .inl (gcA G 0, 401, .inl fun _ => 0)), (q4, .inr (3, [.ref q2])), (q5, .inr (5, [.ref q2, .ref u7])), (u7, .inr (4, [.ref p7, .ref k7, .int 0, .int 0, .int (-1)])), (p7, .inl (gcA G 0, 400, .inl fun _ => 0)), (k7, .inl (gcA G 0, 32, .inl fun _ => 0))]) q7 ) rfl (Nat.le_of_ble_eq_true rfl) (Nat.le_trans (by decide) hmc) (Nat.le_trans (by decide) hms) dX9_init_61 (fun ws1 hw1 => ?_)
  obtain ⟨a9, rfl⟩ := hw1
  refine ⟨([(h0, .inr (9, [.ref q0, .ref q2, .ref q4, .ref q5, .null, .null, .null, .null, .null, .int 0, .int 0])), (q0, .inr (7, [.ref c2, .int 0])), (c2, .inl (gcA G 0, 400, .inl fun _ => 0)), (q2, .inr (8, [.ref e4, .ref f4, .ref g4, .int 0, .int 0, .int 0])), (e4, .inl (gcA G 0, 401, .inl fun _ => 0)), (f4, .inl (gcA G 0, 401, .inl fun _ => 0)), (g4, .inl (gcA G 0, 401, .inl fun _ => 0)), (q4, .inr (3, [.ref q2])), (q5, .inr (5, [.ref q2, .ref u7])), (u7, .inr (4, [.ref p7, .ref k7, .int 0, .int 0, .int (-1)])), (p7, .inl (gcA G 0, 400, .inl fun _ => 0)), (k7, .inl (gcA G 0, 32, .inl fun _ => 0))] ++ hsL G q7 a9), by first | (rw [List.append_assoc]; done) | (rw [List.append_assoc]; rfl), ?_⟩
  refine bj_putF (pc := 64) hC hnm inX9 tyX9 tyX9_ok nmX9 0 rfl rfl 4 (by decide) kw280 rfl rfl rfl rfl rfl rfl (Nat.le_of_ble_eq_true rfl) dX9_init_64 (R' := ([(h0, .inr (9, [.ref q0, .ref q2, .ref q4, .ref q5, .ref q7, .null, .null, .null, .null, .int 0, .int 0])), (q0, .inr (7, [.ref c2, .int 0])), (c2, .inl (gcA G 0, 400, .inl fun _ => 0)), (q2, .inr (8, [.ref e4, .ref f4, .ref g4, .int 0, .int 0, .int 0])), (e4, .inl (gcA G 0, 401, .inl fun _ => 0)), (f4, .inl (gcA G 0, 401, .inl fun _ => 0)), (g4, .inl (gcA G 0, 401, .inl fun _ => 0)), (q4, .inr (3, [.ref q2])), (q5, .inr (5, [.ref q2, .ref u7])), (u7, .inr (4, [.ref p7, .ref k7, .int 0, .int 0, .int (-1)])), (p7, .inl (gcA G 0, 400, .inl fun _ => 0)), (k7, .inl (gcA G 0, 32, .inl fun _ => 0))] ++ hsL G q7 a9)) rfl ?_
  refine bj_aload_n (pc := 67) (i := 0) hC dX9_init_67 rfl rfl ?_
  refine bj_new (pc := 68) (ci := 2) (fs := [.null, .null, .null, .null, .null, .int 0, .int 0, .int 0, .int 0, .int 0, .int 0, .int 0, .int 0, .int 0, .int 0, .int 0, .int 0]) hC inX2 tyX2 tyX2_ok kw128 kw129 kw7 rfl dfX2 (Nat.le_trans (by decide) hmc) (Nat.le_trans (by decide) hms) dX9_init_68 (fun q9 => ?_)
  refine bj_dup (pc := 71) hC dX9_init_71 ?_
  refine bj_callN (pc := 72) (As := []) (n := 0) (lv := 4) hC kw130 kw132 kw7 kw131 rfl ⟨by decide, by decide, by decide +kernel⟩ (by decide) (by decide) (by rw [← List.append_assoc]; exact cn_X2 G C.2.1 (X ++ ([(h0, .inr (9, [.ref q0, .ref q2, .ref q4, .ref q5, .ref q7, .null, .null, .null, .null, .int 0, .int 0])), (q0, .inr (7, [.ref c2, .int 0])), (c2, .inl (gcA G 0, 400, .inl fun _ => 0)), (q2, .inr (8, [.ref e4, .ref f4, .ref g4, .int 0, .int 0, .int 0])), (e4, .inl (gcA G 0, 401, .inl fun _ => 0)), (f4, .inl (gcA G 0, 401, .inl fun _ => 0)), (g4, .inl (gcA G 0, 401, .inl fun _ => 0)), (q4, .inr (3, [.ref q2])), (q5, .inr (5, [.ref q2, .ref u7])), (u7, .inr (4, [.ref p7, .ref k7, .int 0, .int 0, .int (-1)])), (p7, .inl (gcA G 0, 400, .inl fun _ => 0)), (k7, .inl (gcA G 0, 32, .inl fun _ => 0))] ++ hsL G q7 a9)) q9 ) rfl (Nat.le_of_ble_eq_true rfl) (Nat.le_trans (by decide) hmc) (Nat.le_trans (by decide) hms) dX9_init_72 (fun ws1 hw1 => ?_)
  obtain ⟨a11, rfl⟩ := hw1
  refine ⟨(([(h0, .inr (9, [.ref q0, .ref q2, .ref q4, .ref q5, .ref q7, .null, .null, .null, .null, .int 0, .int 0])), (q0, .inr (7, [.ref c2, .int 0])), (c2, .inl (gcA G 0, 400, .inl fun _ => 0)), (q2, .inr (8, [.ref e4, .ref f4, .ref g4, .int 0, .int 0, .int 0])), (e4, .inl (gcA G 0, 401, .inl fun _ => 0)), (f4, .inl (gcA G 0, 401, .inl fun _ => 0)), (g4, .inl (gcA G 0, 401, .inl fun _ => 0)), (q4, .inr (3, [.ref q2])), (q5, .inr (5, [.ref q2, .ref u7])), (u7, .inr (4, [.ref p7, .ref k7, .int 0, .int 0, .int (-1)])), (p7, .inl (gcA G 0, 400, .inl fun _ => 0)), (k7, .inl (gcA G 0, 32, .inl fun _ => 0))] ++ hsL G q7 a9) ++ hsL G q9 a11), by first | (rw [List.append_assoc]; done) | (rw [List.append_assoc]; rfl), ?_⟩
  refine bj_putF (pc := 75) hC hnm inX9 tyX9 tyX9_ok nmX9 0 rfl rfl 5 (by decide) kw281 rfl rfl rfl rfl rfl rfl (Nat.le_of_ble_eq_true rfl) dX9_init_75 (R' := (([(h0, .inr (9, [.ref q0, .ref q2, .ref q4, .ref q5, .ref q7, .ref q9, .null, .null, .null, .int 0, .int 0])), (q0, .inr (7, [.ref c2, .int 0])), (c2, .inl (gcA G 0, 400, .inl fun _ => 0)), (q2, .inr (8, [.ref e4, .ref f4, .ref g4, .int 0, .int 0, .int 0])), (e4, .inl (gcA G 0, 401, .inl fun _ => 0)), (f4, .inl (gcA G 0, 401, .inl fun _ => 0)), (g4, .inl (gcA G 0, 401, .inl fun _ => 0)), (q4, .inr (3, [.ref q2])), (q5, .inr (5, [.ref q2, .ref u7])), (u7, .inr (4, [.ref p7, .ref k7, .int 0, .int 0, .int (-1)])), (p7, .inl (gcA G 0, 400, .inl fun _ => 0)), (k7, .inl (gcA G 0, 32, .inl fun _ => 0))] ++ hsL G q7 a9) ++ hsL G q9 a11)) rfl ?_
  refine bj_aload_n (pc := 78) (i := 0) hC dX9_init_78 rfl rfl ?_
  refine bj_new (pc := 79) (ci := 2) (fs := [.null, .null, .null, .null, .null, .int 0, .int 0, .int 0, .int 0, .int 0, .int 0, .int 0, .int 0, .int 0, .int 0, .int 0, .int 0]) hC inX2 tyX2 tyX2_ok kw128 kw129 kw7 rfl dfX2 (Nat.le_trans (by decide) hmc) (Nat.le_trans (by decide) hms) dX9_init_79 (fun q11 => ?_)
  refine bj_dup (pc := 82) hC dX9_init_82 ?_
  refine bj_callN (pc := 83) (As := []) (n := 0) (lv := 4) hC kw130 kw132 kw7 kw131 rfl ⟨by decide, by decide, by decide +kernel⟩ (by decide) (by decide) (by rw [← List.append_assoc]; exact cn_X2 G C.2.1 (X ++ (([(h0, .inr (9, [.ref q0, .ref q2, .ref q4, .ref q5, .ref q7, .ref q9, .null, .null, .null, .int 0, .int 0])), (q0, .inr (7, [.ref c2, .int 0])), (c2, .inl (gcA G 0, 400, .inl fun _ => 0)), (q2, .inr (8, [.ref e4, .ref f4, .ref g4, .int 0, .int 0, .int 0])), (e4, .inl (gcA G 0, 401, .inl fun _ => 0)), (f4, .inl (gcA G 0, 401, .inl fun _ => 0)), (g4, .inl (gcA G 0, 401, .inl fun _ => 0)), (q4, .inr (3, [.ref q2])), (q5, .inr (5, [.ref q2, .ref u7])), (u7, .inr (4, [.ref p7, .ref k7, .int 0, .int 0, .int (-1)])), (p7, .inl (gcA G 0, 400, .inl fun _ => 0)), (k7, .inl (gcA G 0, 32, .inl fun _ => 0))] ++ hsL G q7 a9) ++ hsL G q9 a11)) q11 ) rfl (Nat.le_of_ble_eq_true rfl) (Nat.le_trans (by decide) hmc) (Nat.le_trans (by decide) hms) dX9_init_83 (fun ws1 hw1 => ?_)
  obtain ⟨a13, rfl⟩ := hw1
  refine ⟨((([(h0, .inr (9, [.ref q0, .ref q2, .ref q4, .ref q5, .ref q7, .ref q9, .null, .null, .null, .int 0, .int 0])), (q0, .inr (7, [.ref c2, .int 0])), (c2, .inl (gcA G 0, 400, .inl fun _ => 0)), (q2, .inr (8, [.ref e4, .ref f4, .ref g4, .int 0, .int 0, .int 0])), (e4, .inl (gcA G 0, 401, .inl fun _ => 0)), (f4, .inl (gcA G 0, 401, .inl fun _ => 0)), (g4, .inl (gcA G 0, 401, .inl fun _ => 0)), (q4, .inr (3, [.ref q2])), (q5, .inr (5, [.ref q2, .ref u7])), (u7, .inr (4, [.ref p7, .ref k7, .int 0, .int 0, .int (-1)])), (p7, .inl (gcA G 0, 400, .inl fun _ => 0)), (k7, .inl (gcA G 0, 32, .inl fun _ => 0))] ++ hsL G q7 a9) ++ hsL G q9 a11) ++ hsL G q11 a13), by first | (rw [List.append_assoc]; done) | (rw [List.append_assoc]; rfl), ?_⟩
  refine bj_putF (pc := 86) hC hnm inX9 tyX9 tyX9_ok nmX9 0 rfl rfl 6 (by decide) kw282 rfl rfl rfl rfl rfl rfl (Nat.le_of_ble_eq_true rfl) dX9_init_86 (R' := ((([(h0, .inr (9, [.ref q0, .ref q2, .ref q4, .ref q5, .ref q7, .ref q9, .ref q11, .null, .null, .int 0, .int 0])), (q0, .inr (7, [.ref c2, .int 0])), (c2, .inl (gcA G 0, 400, .inl fun _ => 0)), (q2, .inr (8, [.ref e4, .ref f4, .ref g4, .int 0, .int 0, .int 0])), (e4, .inl (gcA G 0, 401, .inl fun _ => 0)), (f4, .inl (gcA G 0, 401, .inl fun _ => 0)), (g4, .inl (gcA G 0, 401, .inl fun _ => 0)), (q4, .inr (3, [.ref q2])), (q5, .inr (5, [.ref q2, .ref u7])), (u7, .inr (4, [.ref p7, .ref k7, .int 0, .int 0, .int (-1)])), (p7, .inl (gcA G 0, 400, .inl fun _ => 0)), (k7, .inl (gcA G 0, 32, .inl fun _ => 0))] ++ hsL G q7 a9) ++ hsL G q9 a11) ++ hsL G q11 a13)) rfl ?_
  refine bj_aload_n (pc := 89) (i := 0) hC dX9_init_89 rfl rfl ?_
  refine bj_new (pc := 90) (ci := 6) (fs := [.null, .int 0, .int 0]) hC inX6 tyX6 tyX6_ok kw256 kw257 kw10 rfl dfX6 (Nat.le_trans (by decide) hmc) (Nat.le_trans (by decide) hms) dX9_init_90 (fun q13 => ?_)
  refine bj_dup (pc := 93) hC dX9_init_93 ?_
  refine bj_callI (pc := 94) (As := []) (n := 0) (lv := 6) hC kw258 kw260 kw10 kw259 rfl ⟨by decide, by decide, by decide +kernel⟩ (by decide) (by decide) (by rw [← List.append_assoc]; exact cn_X6 G C.2.1 (X ++ ((([(h0, .inr (9, [.ref q0, .ref q2, .ref q4, .ref q5, .ref q7, .ref q9, .ref q11, .null, .null, .int 0, .int 0])), (q0, .inr (7, [.ref c2, .int 0])), (c2, .inl (gcA G 0, 400, .inl fun _ => 0)), (q2, .inr (8, [.ref e4, .ref f4, .ref g4, .int 0, .int 0, .int 0])), (e4, .inl (gcA G 0, 401, .inl fun _ => 0)), (f4, .inl (gcA G 0, 401, .inl fun _ => 0)), (g4, .inl (gcA G 0, 401, .inl fun _ => 0)), (q4, .inr (3, [.ref q2])), (q5, .inr (5, [.ref q2, .ref u7])), (u7, .inr (4, [.ref p7, .ref k7, .int 0, .int 0, .int (-1)])), (p7, .inl (gcA G 0, 400, .inl fun _ => 0)), (k7, .inl (gcA G 0, 32, .inl fun _ => 0))] ++ hsL G q7 a9) ++ hsL G q9 a11) ++ hsL G q11 a13)) q13 ) rfl (Nat.le_of_ble_eq_true rfl) (Nat.le_trans (by decide) hmc) (Nat.le_trans (by decide) hms) dX9_init_94 (fun ws1 hw1 => ?_)
  obtain ⟨b15, z15, y15, rfl⟩ := hw1
  refine ⟨(((([(h0, .inr (9, [.ref q0, .ref q2, .ref q4, .ref q5, .ref q7, .ref q9, .ref q11, .null, .null, .int 0, .int 0])), (q0, .inr (7, [.ref c2, .int 0])), (c2, .inl (gcA G 0, 400, .inl fun _ => 0)), (q2, .inr (8, [.ref e4, .ref f4, .ref g4, .int 0, .int 0, .int 0])), (e4, .inl (gcA G 0, 401, .inl fun _ => 0)), (f4, .inl (gcA G 0, 401, .inl fun _ => 0)), (g4, .inl (gcA G 0, 401, .inl fun _ => 0)), (q4, .inr (3, [.ref q2])), (q5, .inr (5, [.ref q2, .ref u7])), (u7, .inr (4, [.ref p7, .ref k7, .int 0, .int 0, .int (-1)])), (p7, .inl (gcA G 0, 400, .inl fun _ => 0)), (k7, .inl (gcA G 0, 32, .inl fun _ => 0))] ++ hsL G q7 a9) ++ hsL G q9 a11) ++ hsL G q11 a13) ++ psL G q13 b15 z15 y15), by first | (rw [List.append_assoc]; done) | (rw [List.append_assoc]; rfl), ?_⟩
  refine bj_putF (pc := 97) hC hnm inX9 tyX9 tyX9_ok nmX9 0 rfl rfl 7 (by decide) kw283 rfl rfl rfl rfl rfl rfl (Nat.le_of_ble_eq_true rfl) dX9_init_97 (R' := (((([(h0, .inr (9, [.ref q0, .ref q2, .ref q4, .ref q5, .ref q7, .ref q9, .ref q11, .ref q13, .null, .int 0, .int 0])), (q0, .inr (7, [.ref c2, .int 0])), (c2, .inl (gcA G 0, 400, .inl fun _ => 0)), (q2, .inr (8, [.ref e4, .ref f4, .ref g4, .int 0, .int 0, .int 0])), (e4, .inl (gcA G 0, 401, .inl fun _ => 0)), (f4, .inl (gcA G 0, 401, .inl fun _ => 0)), (g4, .inl (gcA G 0, 401, .inl fun _ => 0)), (q4, .inr (3, [.ref q2])), (q5, .inr (5, [.ref q2, .ref u7])), (u7, .inr (4, [.ref p7, .ref k7, .int 0, .int 0, .int (-1)])), (p7, .inl (gcA G 0, 400, .inl fun _ => 0)), (k7, .inl (gcA G 0, 32, .inl fun _ => 0))] ++ hsL G q7 a9) ++ hsL G q9 a11) ++ hsL G q11 a13) ++ psL G q13 b15 z15 y15)) rfl ?_
  refine bj_aload_n (pc := 100) (i := 0) hC dX9_init_100 rfl rfl ?_
  refine bj_sipush (pc := 101) (v := 256) hC dX9_init_101 sc256 ?_
  refine bj_newa (pc := 104) (atype := .int) (a0 := (256, .inl fun _ => 0)) hC 0 kw50 rfl rfl (fun _ h => by cases h) (fun _ => rfl) (by decide) (by decide) (by decide) (Nat.le_trans (by decide) hmc) (Nat.le_trans (by decide) hms) dX9_init_104 (fun q15 => ?_)
  refine bj_putF (pc := 106) hC hnm inX9 tyX9 tyX9_ok nmX9 0 rfl rfl 8 (by decide) kw284 rfl rfl rfl rfl rfl rfl (Nat.le_of_ble_eq_true rfl) dX9_init_106 (R' := ((((([(h0, .inr (9, [.ref q0, .ref q2, .ref q4, .ref q5, .ref q7, .ref q9, .ref q11, .ref q13, .ref q15, .int 0, .int 0])), (q0, .inr (7, [.ref c2, .int 0])), (c2, .inl (gcA G 0, 400, .inl fun _ => 0)), (q2, .inr (8, [.ref e4, .ref f4, .ref g4, .int 0, .int 0, .int 0])), (e4, .inl (gcA G 0, 401, .inl fun _ => 0)), (f4, .inl (gcA G 0, 401, .inl fun _ => 0)), (g4, .inl (gcA G 0, 401, .inl fun _ => 0)), (q4, .inr (3, [.ref q2])), (q5, .inr (5, [.ref q2, .ref u7])), (u7, .inr (4, [.ref p7, .ref k7, .int 0, .int 0, .int (-1)])), (p7, .inl (gcA G 0, 400, .inl fun _ => 0)), (k7, .inl (gcA G 0, 32, .inl fun _ => 0))] ++ hsL G q7 a9) ++ hsL G q9 a11) ++ hsL G q11 a13) ++ psL G q13 b15 z15 y15) ++ [(q15, .inl (gcA G 0, 256, .inl fun _ => 0))])) rfl ?_
  refine bj_aload_n (pc := 109) (i := 0) hC dX9_init_109 rfl rfl ?_
  refine bj_iconst (pc := 110) (v := 0) hC dX9_init_110 ic0 ?_
  refine bj_put (pc := 111) hC inX9 tyX9 tyX9_ok nmX9 0 rfl rfl 9 (by decide) kw285 rfl rfl rfl rfl rfl (Nat.le_of_ble_eq_true rfl) dX9_init_111 (R' := ((((([(h0, .inr (9, [.ref q0, .ref q2, .ref q4, .ref q5, .ref q7, .ref q9, .ref q11, .ref q13, .ref q15, .int 0, .int 0])), (q0, .inr (7, [.ref c2, .int 0])), (c2, .inl (gcA G 0, 400, .inl fun _ => 0)), (q2, .inr (8, [.ref e4, .ref f4, .ref g4, .int 0, .int 0, .int 0])), (e4, .inl (gcA G 0, 401, .inl fun _ => 0)), (f4, .inl (gcA G 0, 401, .inl fun _ => 0)), (g4, .inl (gcA G 0, 401, .inl fun _ => 0)), (q4, .inr (3, [.ref q2])), (q5, .inr (5, [.ref q2, .ref u7])), (u7, .inr (4, [.ref p7, .ref k7, .int 0, .int 0, .int (-1)])), (p7, .inl (gcA G 0, 400, .inl fun _ => 0)), (k7, .inl (gcA G 0, 32, .inl fun _ => 0))] ++ hsL G q7 a9) ++ hsL G q9 a11) ++ hsL G q11 a13) ++ psL G q13 b15 z15 y15) ++ [(q15, .inl (gcA G 0, 256, .inl fun _ => 0))])) rfl ?_
  refine bj_aload_n (pc := 114) (i := 0) hC dX9_init_114 rfl rfl ?_
  refine bj_iconst (pc := 115) (v := (-1)) hC dX9_init_115 icm1 ?_
  refine bj_put (pc := 116) hC inX9 tyX9 tyX9_ok nmX9 0 rfl rfl 10 (by decide) kw286 rfl rfl rfl rfl rfl (Nat.le_of_ble_eq_true rfl) dX9_init_116 (R' := ((((([(h0, .inr (9, [.ref q0, .ref q2, .ref q4, .ref q5, .ref q7, .ref q9, .ref q11, .ref q13, .ref q15, .int 0, .int (-1)])), (q0, .inr (7, [.ref c2, .int 0])), (c2, .inl (gcA G 0, 400, .inl fun _ => 0)), (q2, .inr (8, [.ref e4, .ref f4, .ref g4, .int 0, .int 0, .int 0])), (e4, .inl (gcA G 0, 401, .inl fun _ => 0)), (f4, .inl (gcA G 0, 401, .inl fun _ => 0)), (g4, .inl (gcA G 0, 401, .inl fun _ => 0)), (q4, .inr (3, [.ref q2])), (q5, .inr (5, [.ref q2, .ref u7])), (u7, .inr (4, [.ref p7, .ref k7, .int 0, .int 0, .int (-1)])), (p7, .inl (gcA G 0, 400, .inl fun _ => 0)), (k7, .inl (gcA G 0, 32, .inl fun _ => 0))] ++ hsL G q7 a9) ++ hsL G q9 a11) ++ hsL G q11 a13) ++ psL G q13 b15 z15 y15) ++ [(q15, .inl (gcA G 0, 256, .inl fun _ => 0))])) rfl ?_
  exact bj_ret (pc := 119) hC hrt dX9_init_119 (⟨q0, c2, q2, e4, f4, g4, q4, q5, u7, p7, k7, q7, a9, q9, a11, q11, a13, q13, b15, z15, y15, q15, rfl⟩)
