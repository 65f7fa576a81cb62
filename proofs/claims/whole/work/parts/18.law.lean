/-! ===== the law itself: rows for its script, its helpers, its end ===== -/
/-- the script, below our cells -/
def SC (G : GG) (C : CX) (b n : Nat) (xs : Nat → Int32) : Prop := va_X b n xs (cS C) (cS C).heap ∧ b < (cS C).heap.size ∧ ¬ gA G b
def MW (y : MethodName) (bytes : ByteArray) (maxL : Nat) (ret : Option FieldType) (hh : List (Nat × Nat × Nat × Nat)) (n : Nat) : Prop := Cond.codeWith y bytes maxL ret hh ∈ BIG ∧ Cond.static y ∈ BIG ∧ Cond.initialized y.cls ∈ BIG ∧ (y.cls ≠ "java/lang/invoke/MethodHandle" ∧ y.cls ≠ "java/lang/invoke/VarHandle" ∧ (parseMethodDescriptor y.desc).map (fun d => d.parameters.length) = some n) ∧ maxL ≤ 40
section LAWR
variable {τ : Type} {G : GG} {C : CX} {own : String} {cc : ByteArray} {nL lvl kc ks : Nat} {ret : Option FieldType} {Q : τ → State → Prop} {μ : Mem} {pc : Nat} {L : List (Option Value)} {st rest : List Value} {E : Option τ} {b n : Nat} {xs : Nat → Int32}
theorem CO.to (h : CO G C own cc nL lvl kc ks ret) {k' n' : Nat} (h1 : k' ≤ (cR C).cells) (h2 : n' ≤ (cR C).slots) : CO G C own cc nL lvl k' n' ret :=
  ⟨h.1, h.2.1, h.2.2.1, h.2.2.2.1, h.2.2.2.2.1, h.2.2.2.2.2.1, h.2.2.2.2.2.2.1, h.2.2.2.2.2.2.2.1, ⟨h.rm.1, h.rm.2.1, h1, h2⟩, h.2.2.2.2.2.2.2.2.2⟩
theorem aw_wide {k' n' : Nat} (h1 : kc ≤ k') (h2 : ks ≤ n') (k : AW G C Q k' n' nL μ pc L st E) : AW G C Q kc ks nL μ pc L st E :=
  fun x hx H locs ls hP hS hL => W.widen h1 h2 (k x hx H locs ls hP hS hL)
theorem aw_sld (hC : CO G C own cc nL lvl kc ks ret) (hX : SC G C b n xs) {v : Int32} (hd : decode cc pc = .ok (.iaload, 1)) (k : AW G C Q kc ks nL μ (pc + 1) L (.int (xs v.toNatClampNeg) :: st) E) : AW G C Q kc ks nL μ pc L (.int v :: .ref b :: st) (ix v n E) := by
  intro x hx H locs ls hP hS hL
  obtain ⟨hi, hx⟩ := ix_some hx
  exact va_sld hC.x hC.b hX.1 hX.2.1 hX.2.2 hS hi hd (k x hx H locs ls hP hS hL)
theorem aw_slen (hC : CO G C own cc nL lvl kc ks ret) (hX : SC G C b n xs) (hd : decode cc pc = .ok (.arraylength, 1)) (k : AW G C Q kc ks nL μ (pc + 1) L (.int (Int32.ofNat n) :: st) E) : AW G C Q kc ks nL μ pc L (.ref b :: st) E := by
  intro x hx H locs ls hP hS hL
  exact va_slen hC.x hC.b hX.1 hX.2.1 hX.2.2 hS hd (k x hx H locs ls hP hS hL)
theorem aw_callSH {y : MethodName} {bytes : ByteArray} {maxL index m lv : Nat} {rt : Option FieldType} {hh : List (Nat × Nat × Nat × Nat)} {As : List Value} {E1 : Option (Int32 × Mem)} {k : Int32 × Mem → Option τ} (hC : CO G C own cc nL lvl kc ks ret) (hR : CO G C own cc nL lvl (kc + 1) (ks + 6) ret) (hB : MW y bytes maxL rt hh m) (hl : Cond.methodLink own index y ∈ BIG) (hlv : lv < lvl) (hM : CHL G C.2.1 y (.codeWith y bytes maxL rt hh) lv As μ E1) (hn : As.length = m) (hr8 : (rest.map fun v => v.category).sum ≤ 8) (hd : decode cc pc = .ok (.invokestatic index, 3))
    (kk : ∀ q, AW G C Q (kc + 1) (ks + 6) nL q.2 (pc + 3) L (.int q.1 :: rest) (k q)) : AW G C Q kc ks nL μ pc L (As.reverse ++ rest) (E1.bind k) := by
  intro x hx H locs ls hP hS hL
  cases hE : E1 with
  | none => rw [hE] at hx; cases hx
  | some q =>
    rw [hE] at hx
    have hx' : k q = some x := hx
    have hr := hC.rm
    have hr1 := hR.rm
    have hml := hB.2.2.2.2
    have hG := big_goodB _ hB.1
    have cw : vx_CSW (cR C) (cS C) (cArgs C) own index y bytes maxL rt hh (Cond.codeWith y bytes maxL rt hh :: BIG) (rmX lv) 1 6 m :=
      ⟨⟨rfl, rfl, by show 2 * lv + 1 ≤ _; omega, by show 8 + (maxL + 11) + 64 * lv ≤ _; omega, pay_in hC.ws hG, List.mem_cons_self⟩, hC.w hB.1, hC.w hB.2.2.1, ⟨hB.2.2.2.1.1, hB.2.2.2.1.2.1⟩, fun sig h => by
        have h2 := hB.2.2.2.1.2.2
        rw [h] at h2
        exact (Option.some.inj h2).symm, hC.w hl, hC.w hB.2.1⟩
    have hrun := vx_runSW (p := C.1) (l := C.2.1) (e := C.2.2.1) (R := cR C) (s := cS C) (m := cM C) (args := cArgs C) (below := cBel C) (meth := cMe C) (c := cC C) (H := H) (locs := locs) (cells := kc) (slots := ks) (g := F0 (cM C) pc ls (As.reverse ++ rest)) (rest := rest) (nL := nL) (Ts := BIG) (own := own) ⟨hC.x, hC.b, hC.ml, hC.ow, hC.ws⟩ (hM q hE) cw ⟨Inv_blind _, fun U hU hW => ⟨rfl, Inv_of hC hP hS hU hW⟩⟩ rfl hn hL.1 rfl (lv_room hr8) hd ⟨hr1.2.2.1, hr1.2.2.2⟩
    intro T hT X
    obtain ⟨v, st₀, t, T', L', h0, X', hL', e1, e2, hq, hst⟩ := hrun T hT X
    obtain ⟨hv, hP1, hF⟩ := hq
    cases hv
    obtain ⟨t2, a1, b1⟩ := kk q x hx' T'.heap (locs ++ L') ls (by rw [e1]; exact hP1) (keepS hS h0 e1 hF hL') hL T' rfl X'
    exact ⟨t2, hst t2 a1, b1⟩
end LAWR
theorem ic6 : Int32.ofInt 6 = 6 := by decide +kernel
theorem mw_L_house : MW yL_house cL_house 3 (some .int) [(0, 8, 11, 13), (0, 8, 14, 15)] 2 := ⟨kw579, kw578, kw0, ⟨by decide, by decide, by decide +kernel⟩, by decide⟩
theorem mw_L_law : MW yL_law cL_law 3 (some .int) [(0, 8, 11, 13)] 2 := ⟨kw832, kw831, kw0, ⟨by decide, by decide, by decide +kernel⟩, by decide⟩
theorem mw_L_guest : MW yL_guest cL_guest 5 (some .int) [(0, 10, 13, 24), (0, 10, 17, 26)] 4 := ⟨kw872, kw871, kw0, ⟨by decide, by decide, by decide +kernel⟩, by decide⟩
theorem mw_L_room : MW yL_room cL_room 5 (some .int) [(0, 10, 13, 24), (0, 10, 17, 26)] 4 := ⟨kw944, kw943, kw0, ⟨by decide, by decide, by decide +kernel⟩, by decide⟩
theorem mw_L_calendar : MW yL_calendar cL_calendar 5 (some .int) [(0, 10, 13, 24)] 4 := ⟨kw954, kw953, kw0, ⟨by decide, by decide, by decide +kernel⟩, by decide⟩
theorem mw_L_saturday : MW yL_saturday cL_saturday 5 (some .int) [(0, 17, 20, 24), (0, 17, 24, 13)] 4 := ⟨kw970, kw969, kw0, ⟨by decide, by decide, by decide +kernel⟩, by decide⟩
theorem mw_L_go : MW yL_go cL_go 5 (some .int) [(0, 10, 13, 24)] 4 := ⟨kw979, kw978, kw0, ⟨by decide, by decide, by decide +kernel⟩, by decide⟩
theorem mw_L_come : MW yL_come cL_come 5 (some .int) [(0, 17, 20, 24)] 4 := ⟨kw996, kw995, kw0, ⟨by decide, by decide, by decide +kernel⟩, by decide⟩
theorem mw_L_key : MW yL_key cL_key 5 (some .int) [(0, 17, 20, 24)] 4 := ⟨kw1003, kw1002, kw0, ⟨by decide, by decide, by decide +kernel⟩, by decide⟩
theorem mw_L_hole : MW yL_hole cL_hole 6 (some .int) [(0, 19, 22, 24), (0, 19, 26, 13)] 5 := ⟨kw1010, kw1009, kw0, ⟨by decide, by decide, by decide +kernel⟩, by decide⟩
theorem mw_L_bath : MW yL_bath cL_bath 4 (some .int) [(0, 9, 12, 24)] 3 := ⟨kw1019, kw1018, kw0, ⟨by decide, by decide, by decide +kernel⟩, by decide⟩
theorem mw_L_keep : MW yL_keep cL_keep 4 (some .int) [(0, 9, 12, 24)] 3 := ⟨kw1026, kw1025, kw0, ⟨by decide, by decide, by decide +kernel⟩, by decide⟩
theorem mw_L_masons : MW yL_masons cL_masons 4 (some .int) [(0, 9, 12, 13)] 3 := ⟨kw1033, kw1032, kw0, ⟨by decide, by decide, by decide +kernel⟩, by decide⟩
theorem mw_L_buy : MW yL_buy cL_buy 4 (some .int) [(0, 9, 12, 13)] 3 := ⟨kw1041, kw1040, kw0, ⟨by decide, by decide, by decide +kernel⟩, by decide⟩
theorem mw_L_calm : MW yL_calm cL_calm 4 (some .int) [(0, 9, 12, 24)] 3 := ⟨kw1049, kw1048, kw0, ⟨by decide, by decide, by decide +kernel⟩, by decide⟩
theorem mw_L_days : MW yL_days cL_days 4 (some .int) [(0, 9, 12, 13)] 3 := ⟨kw1062, kw1061, kw0, ⟨by decide, by decide, by decide +kernel⟩, by decide⟩
theorem mw_L_ahead : MW yL_ahead cL_ahead 6 (some .int) [(0, 12, 15, 24), (0, 12, 19, 13), (0, 12, 23, 26)] 5 := ⟨kw1105, kw1104, kw0, ⟨by decide, by decide, by decide +kernel⟩, by decide⟩
theorem mw_L_saturdays : MW yL_saturdays cL_saturdays 4 (some .int) [(0, 9, 12, 13)] 3 := ⟨kw1120, kw1119, kw0, ⟨by decide, by decide, by decide +kernel⟩, by decide⟩
theorem mw_L_first : MW yL_first cL_first 5 (some .int) [(0, 10, 13, 24), (0, 10, 17, 13)] 4 := ⟨kw1127, kw1126, kw0, ⟨by decide, by decide, by decide +kernel⟩, by decide⟩
theorem mw_L_stand : MW yL_stand cL_stand 4 (some .int) [(0, 9, 12, 13)] 3 := ⟨kw1135, kw1134, kw0, ⟨by decide, by decide, by decide +kernel⟩, by decide⟩
theorem mw_L_sent : MW yL_sent cL_sent 4 (some .int) [(0, 9, 12, 13)] 3 := ⟨kw1146, kw1145, kw0, ⟨by decide, by decide, by decide +kernel⟩, by decide⟩
theorem mw_L_rests : MW yL_rests cL_rests 4 (some .int) [(0, 9, 12, 24)] 3 := ⟨kw1154, kw1153, kw0, ⟨by decide, by decide, by decide +kernel⟩, by decide⟩
theorem mw_L_shifts : MW yL_shifts cL_shifts 3 (some .int) [(0, 8, 11, 13)] 2 := ⟨kw1167, kw1166, kw0, ⟨by decide, by decide, by decide +kernel⟩, by decide⟩
theorem mw_L_ask : MW yL_ask cL_ask 3 (some .int) [(0, 8, 11, 13)] 2 := ⟨kw1185, kw1184, kw0, ⟨by decide, by decide, by decide +kernel⟩, by decide⟩
theorem mw_L_bored : MW yL_bored cL_bored 4 (some .int) [(0, 9, 12, 13)] 3 := ⟨kw1193, kw1192, kw0, ⟨by decide, by decide, by decide +kernel⟩, by decide⟩
theorem mw_L_look : MW yL_look cL_look 3 (some .int) [(0, 8, 11, 13)] 2 := ⟨kw1210, kw1209, kw0, ⟨by decide, by decide, by decide +kernel⟩, by decide⟩
theorem mw_L_line : MW yL_line cL_line 5 (some .int) [(0, 10, 13, 24)] 4 := ⟨kw1217, kw1216, kw0, ⟨by decide, by decide, by decide +kernel⟩, by decide⟩
theorem mw_L_pass : MW yL_pass cL_pass 5 (some .int) [(0, 10, 13, 24)] 4 := ⟨kw1228, kw1227, kw0, ⟨by decide, by decide, by decide +kernel⟩, by decide⟩
theorem mw_L_agree : MW yL_agree cL_agree 4 (some .int) [(0, 9, 12, 13)] 3 := ⟨kw1242, kw1241, kw0, ⟨by decide, by decide, by decide +kernel⟩, by decide⟩
theorem mw_L_need : MW yL_need cL_need 4 (some .int) [(0, 9, 12, 13)] 3 := ⟨kw1249, kw1248, kw0, ⟨by decide, by decide, by decide +kernel⟩, by decide⟩
theorem mw_L_spread : MW yL_spread cL_spread 4 (some .int) [(0, 9, 12, 13)] 3 := ⟨kw1256, kw1255, kw0, ⟨by decide, by decide, by decide +kernel⟩, by decide⟩
theorem mw_L_trial : MW yL_trial cL_trial 5 (some .int) [(0, 10, 13, 13)] 4 := ⟨kw1267, kw1266, kw0, ⟨by decide, by decide, by decide +kernel⟩, by decide⟩
theorem mw_L_span : MW yL_span cL_span 5 (some .int) [(0, 10, 13, 13)] 4 := ⟨kw1274, kw1273, kw0, ⟨by decide, by decide, by decide +kernel⟩, by decide⟩
theorem mw_L_led : MW yL_led cL_led 5 (some .int) [(0, 10, 13, 24)] 4 := ⟨kw1281, kw1280, kw0, ⟨by decide, by decide, by decide +kernel⟩, by decide⟩
theorem mw_L_log : MW yL_log cL_log 5 (some .int) [(0, 10, 13, 26)] 4 := ⟨kw1301, kw1300, kw0, ⟨by decide, by decide, by decide +kernel⟩, by decide⟩
theorem dL_law__288 : decode cL_law_ 288 = .ok (.aload_n 1, 1) := by decide +kernel
theorem dL_law__289 : decode cL_law_ 289 = .ok (.aload_n 0, 1) := by decide +kernel
theorem dL_law__290 : decode cL_law_ 290 = .ok (.iload 4, 2) := by decide +kernel
theorem dL_law__292 : decode cL_law_ 292 = .ok (.iconst 1, 1) := by decide +kernel
theorem dL_law__293 : decode cL_law_ 293 = .ok (.iadd, 1) := by decide +kernel
theorem dL_law__294 : decode cL_law_ 294 = .ok (.iaload, 1) := by decide +kernel
theorem dL_law__295 : decode cL_law_ 295 = .ok (.aload_n 0, 1) := by decide +kernel
theorem dL_law__296 : decode cL_law_ 296 = .ok (.iload 4, 2) := by decide +kernel
theorem dL_law__298 : decode cL_law_ 298 = .ok (.iconst 2, 1) := by decide +kernel
theorem dL_law__299 : decode cL_law_ 299 = .ok (.iadd, 1) := by decide +kernel
theorem dL_law__300 : decode cL_law_ 300 = .ok (.iaload, 1) := by decide +kernel
theorem dL_law__301 : decode cL_law_ 301 = .ok (.aload_n 0, 1) := by decide +kernel
theorem dL_law__302 : decode cL_law_ 302 = .ok (.iload 4, 2) := by decide +kernel
theorem dL_law__304 : decode cL_law_ 304 = .ok (.iconst 3, 1) := by decide +kernel
theorem dL_law__305 : decode cL_law_ 305 = .ok (.iadd, 1) := by decide +kernel
theorem dL_law__306 : decode cL_law_ 306 = .ok (.iaload, 1) := by decide +kernel
theorem dL_law__307 : decode cL_law_ 307 = .ok (.aload_n 0, 1) := by decide +kernel
theorem dL_law__308 : decode cL_law_ 308 = .ok (.iload 4, 2) := by decide +kernel
theorem dL_law__310 : decode cL_law_ 310 = .ok (.iconst 4, 1) := by decide +kernel
theorem dL_law__311 : decode cL_law_ 311 = .ok (.iadd, 1) := by decide +kernel
theorem dL_law__312 : decode cL_law_ 312 = .ok (.iaload, 1) := by decide +kernel
theorem dL_law__313 : decode cL_law_ 313 = .ok (.aload_n 0, 1) := by decide +kernel
theorem dL_law__314 : decode cL_law_ 314 = .ok (.iload 4, 2) := by decide +kernel
theorem dL_law__316 : decode cL_law_ 316 = .ok (.iconst 5, 1) := by decide +kernel
theorem dL_law__317 : decode cL_law_ 317 = .ok (.iadd, 1) := by decide +kernel
theorem dL_law__318 : decode cL_law_ 318 = .ok (.iaload, 1) := by decide +kernel
theorem dL_law__319 : decode cL_law_ 319 = .ok (.invokevirtual 135, 3) := by decide +kernel
theorem dL_law__322 : decode cL_law_ 322 = .ok (.aload_n 2, 1) := by decide +kernel
theorem dL_law__323 : decode cL_law_ 323 = .ok (.aload_n 0, 1) := by decide +kernel
theorem dL_law__324 : decode cL_law_ 324 = .ok (.iload 4, 2) := by decide +kernel
theorem dL_law__326 : decode cL_law_ 326 = .ok (.iconst 1, 1) := by decide +kernel
theorem dL_law__327 : decode cL_law_ 327 = .ok (.iadd, 1) := by decide +kernel
theorem dL_law__328 : decode cL_law_ 328 = .ok (.iaload, 1) := by decide +kernel
theorem dL_law__329 : decode cL_law_ 329 = .ok (.aload_n 0, 1) := by decide +kernel
theorem dL_law__330 : decode cL_law_ 330 = .ok (.iload 4, 2) := by decide +kernel
theorem dL_law__332 : decode cL_law_ 332 = .ok (.iconst 2, 1) := by decide +kernel
theorem dL_law__333 : decode cL_law_ 333 = .ok (.iadd, 1) := by decide +kernel
theorem dL_law__334 : decode cL_law_ 334 = .ok (.iaload, 1) := by decide +kernel
theorem dL_law__335 : decode cL_law_ 335 = .ok (.aload_n 0, 1) := by decide +kernel
theorem dL_law__336 : decode cL_law_ 336 = .ok (.iload 4, 2) := by decide +kernel
theorem dL_law__338 : decode cL_law_ 338 = .ok (.iconst 3, 1) := by decide +kernel
theorem dL_law__339 : decode cL_law_ 339 = .ok (.iadd, 1) := by decide +kernel
theorem dL_law__340 : decode cL_law_ 340 = .ok (.iaload, 1) := by decide +kernel
theorem dL_law__341 : decode cL_law_ 341 = .ok (.aload_n 0, 1) := by decide +kernel
theorem dL_law__342 : decode cL_law_ 342 = .ok (.iload 4, 2) := by decide +kernel
theorem dL_law__344 : decode cL_law_ 344 = .ok (.iconst 4, 1) := by decide +kernel
theorem dL_law__345 : decode cL_law_ 345 = .ok (.iadd, 1) := by decide +kernel
theorem dL_law__346 : decode cL_law_ 346 = .ok (.iaload, 1) := by decide +kernel
theorem dL_law__347 : decode cL_law_ 347 = .ok (.aload_n 0, 1) := by decide +kernel
theorem dL_law__348 : decode cL_law_ 348 = .ok (.iload 4, 2) := by decide +kernel
theorem dL_law__350 : decode cL_law_ 350 = .ok (.iconst 5, 1) := by decide +kernel
theorem dL_law__351 : decode cL_law_ 351 = .ok (.iadd, 1) := by decide +kernel
theorem dL_law__352 : decode cL_law_ 352 = .ok (.iaload, 1) := by decide +kernel
theorem dL_law__353 : decode cL_law_ 353 = .ok (.invokevirtual 139, 3) := by decide +kernel
theorem dL_law__356 : decode cL_law_ 356 = .ok (.if_icmp .eq 2609, 3) := by decide +kernel
def lc_0 (xs : Nat → Int32) (n : Nat) (K : Int32 → Mem → Option Unit) (i : Int32) (μ : Mem) : Option Unit := ix (i + 1) n (ix (i + 2) n (ix (i + 3) n (ix (i + 4) n (ix (i + 5) n ((f_X9_feed μ (xs (i + 1).toNatClampNeg) (xs (i + 2).toNatClampNeg) (xs (i + 3).toNatClampNeg) (xs (i + 4).toNatClampNeg) (xs (i + 5).toNatClampNeg)).bind fun (q1 : Int32 × Mem) => ix (i + 1) n (ix (i + 2) n (ix (i + 3) n (ix (i + 4) n (ix (i + 5) n ((f_X10_feed q1.2 (xs (i + 1).toNatClampNeg) (xs (i + 2).toNatClampNeg) (xs (i + 3).toNatClampNeg) (xs (i + 4).toNatClampNeg) (xs (i + 5).toNatClampNeg)).bind fun (q2 : Int32 × Mem) => if q1.1 = q2.1 then (K i q2.2) else (none)))))))))))
set_option maxHeartbeats 4000000 in
set_option maxRecDepth 100000 in
theorem hlc_0 {G : GG} {C : CX} {Q : Unit → State → Prop} {kc ks b n : Nat} {xs : Nat → Int32} {K : Int32 → Mem → Option Unit} (hl0 : C.2.1.stackTraces = false) (hC : CO G C "SaturdayKeepLaw" cL_law_ 7 62 kc ks (some .boolean)) (hC1 : CO G C "SaturdayKeepLaw" cL_law_ 7 62 (kc + 1) (ks + 6) (some .boolean)) (hX : SC G C b n xs) (hK : ∀ i μ, AW G C Q (kc + 1) (ks + 6) 7 μ 2965 [some (.ref b), some (.ref (gad G 0 0)), some (.ref (gad G 0 12)), some (.ref (gad G 0 22)), some (.int i), none, none] [] (K i μ)) (i : Int32) (μ : Mem) : AW G C Q kc ks 7 μ 288 [some (.ref b), some (.ref (gad G 0 0)), some (.ref (gad G 0 12)), some (.ref (gad G 0 22)), some (.int i), none, none] [] (lc_0 xs n K i μ) := by
  have hK0 := fun i μ => aw_wide (Nat.le_succ kc) (Nat.le_add_right ks 6) (hK i μ)
  delta lc_0
  refine aw_aload_n (pc := 288) (i := 1) hC dL_law__288 rfl rfl ?_
  refine aw_aload_n (pc := 289) (i := 0) hC dL_law__289 rfl rfl ?_
  refine aw_iload (pc := 290) hC dL_law__290 rfl ?_
  refine aw_iconst (pc := 292) (v := 1) hC dL_law__292 ic1 ?_
  refine aw_iadd (pc := 293) hC dL_law__293 ?_
  refine aw_sld (pc := 294) hC hX dL_law__294 ?_
  refine aw_aload_n (pc := 295) (i := 0) hC dL_law__295 rfl rfl ?_
  refine aw_iload (pc := 296) hC dL_law__296 rfl ?_
  refine aw_iconst (pc := 298) (v := 2) hC dL_law__298 ic2 ?_
  refine aw_iadd (pc := 299) hC dL_law__299 ?_
  refine aw_sld (pc := 300) hC hX dL_law__300 ?_
  refine aw_aload_n (pc := 301) (i := 0) hC dL_law__301 rfl rfl ?_
  refine aw_iload (pc := 302) hC dL_law__302 rfl ?_
  refine aw_iconst (pc := 304) (v := 3) hC dL_law__304 ic3 ?_
  refine aw_iadd (pc := 305) hC dL_law__305 ?_
  refine aw_sld (pc := 306) hC hX dL_law__306 ?_
  refine aw_aload_n (pc := 307) (i := 0) hC dL_law__307 rfl rfl ?_
  refine aw_iload (pc := 308) hC dL_law__308 rfl ?_
  refine aw_iconst (pc := 310) (v := 4) hC dL_law__310 ic4 ?_
  refine aw_iadd (pc := 311) hC dL_law__311 ?_
  refine aw_sld (pc := 312) hC hX dL_law__312 ?_
  refine aw_aload_n (pc := 313) (i := 0) hC dL_law__313 rfl rfl ?_
  refine aw_iload (pc := 314) hC dL_law__314 rfl ?_
  refine aw_iconst (pc := 316) (v := 5) hC dL_law__316 ic5 ?_
  refine aw_iadd (pc := 317) hC dL_law__317 ?_
  refine aw_sld (pc := 318) hC hX dL_law__318 ?_
  refine aw_callVI (pc := 319) (As := [.int (xs (i + 1).toNatClampNeg), .int (xs (i + 2).toNatClampNeg), .int (xs (i + 3).toNatClampNeg), .int (xs (i + 4).toNatClampNeg), .int (xs (i + 5).toNatClampNeg)]) hC mb_X9_feed kw310 (by decide) (c_X9_feed G C.2.1   μ (xs (i + 1).toNatClampNeg) (xs (i + 2).toNatClampNeg) (xs (i + 3).toNatClampNeg) (xs (i + 4).toNatClampNeg) (xs (i + 5).toNatClampNeg)) (v0 (j := 0) (by decide)) rfl rfl rfl (Nat.le_of_ble_eq_true rfl) dL_law__319 (fun q1 => ?_)
  refine aw_aload_n (pc := 322) (i := 2) hC dL_law__322 rfl rfl ?_
  refine aw_aload_n (pc := 323) (i := 0) hC dL_law__323 rfl rfl ?_
  refine aw_iload (pc := 324) hC dL_law__324 rfl ?_
  refine aw_iconst (pc := 326) (v := 1) hC dL_law__326 ic1 ?_
  refine aw_iadd (pc := 327) hC dL_law__327 ?_
  refine aw_sld (pc := 328) hC hX dL_law__328 ?_
  refine aw_aload_n (pc := 329) (i := 0) hC dL_law__329 rfl rfl ?_
  refine aw_iload (pc := 330) hC dL_law__330 rfl ?_
  refine aw_iconst (pc := 332) (v := 2) hC dL_law__332 ic2 ?_
  refine aw_iadd (pc := 333) hC dL_law__333 ?_
  refine aw_sld (pc := 334) hC hX dL_law__334 ?_
  refine aw_aload_n (pc := 335) (i := 0) hC dL_law__335 rfl rfl ?_
  refine aw_iload (pc := 336) hC dL_law__336 rfl ?_
  refine aw_iconst (pc := 338) (v := 3) hC dL_law__338 ic3 ?_
  refine aw_iadd (pc := 339) hC dL_law__339 ?_
  refine aw_sld (pc := 340) hC hX dL_law__340 ?_
  refine aw_aload_n (pc := 341) (i := 0) hC dL_law__341 rfl rfl ?_
  refine aw_iload (pc := 342) hC dL_law__342 rfl ?_
  refine aw_iconst (pc := 344) (v := 4) hC dL_law__344 ic4 ?_
  refine aw_iadd (pc := 345) hC dL_law__345 ?_
  refine aw_sld (pc := 346) hC hX dL_law__346 ?_
  refine aw_aload_n (pc := 347) (i := 0) hC dL_law__347 rfl rfl ?_
  refine aw_iload (pc := 348) hC dL_law__348 rfl ?_
  refine aw_iconst (pc := 350) (v := 5) hC dL_law__350 ic5 ?_
  refine aw_iadd (pc := 351) hC dL_law__351 ?_
  refine aw_sld (pc := 352) hC hX dL_law__352 ?_
  refine aw_callVI (pc := 353) (As := [.int (xs (i + 1).toNatClampNeg), .int (xs (i + 2).toNatClampNeg), .int (xs (i + 3).toNatClampNeg), .int (xs (i + 4).toNatClampNeg), .int (xs (i + 5).toNatClampNeg)]) hC mb_X10_feed kw1386 (by decide) (c_X10_feed G C.2.1   q1.2 (xs (i + 1).toNatClampNeg) (xs (i + 2).toNatClampNeg) (xs (i + 3).toNatClampNeg) (xs (i + 4).toNatClampNeg) (xs (i + 5).toNatClampNeg)) (v0 (j := 12) (by decide)) rfl rfl rfl (Nat.le_of_ble_eq_true rfl) dL_law__353 (fun q2 => ?_)
  refine aw_icmp_eq (pc := 356) (tgt := 2965) hC dL_law__356 (by decide) (fun _ => ?_) (fun _ => ?_)
  · skip
    exact hK0 i q2.2
  · skip
    exact aw_none
theorem dL_law__361 : decode cL_law_ 361 = .ok (.aload_n 1, 1) := by decide +kernel
theorem dL_law__362 : decode cL_law_ 362 = .ok (.aload_n 0, 1) := by decide +kernel
theorem dL_law__363 : decode cL_law_ 363 = .ok (.iload 4, 2) := by decide +kernel
theorem dL_law__365 : decode cL_law_ 365 = .ok (.iconst 1, 1) := by decide +kernel
theorem dL_law__366 : decode cL_law_ 366 = .ok (.iadd, 1) := by decide +kernel
theorem dL_law__367 : decode cL_law_ 367 = .ok (.iaload, 1) := by decide +kernel
theorem dL_law__368 : decode cL_law_ 368 = .ok (.invokevirtual 140, 3) := by decide +kernel
theorem dL_law__371 : decode cL_law_ 371 = .ok (.aload_n 2, 1) := by decide +kernel
theorem dL_law__372 : decode cL_law_ 372 = .ok (.aload_n 0, 1) := by decide +kernel
theorem dL_law__373 : decode cL_law_ 373 = .ok (.iload 4, 2) := by decide +kernel
theorem dL_law__375 : decode cL_law_ 375 = .ok (.iconst 1, 1) := by decide +kernel
theorem dL_law__376 : decode cL_law_ 376 = .ok (.iadd, 1) := by decide +kernel
theorem dL_law__377 : decode cL_law_ 377 = .ok (.iaload, 1) := by decide +kernel
theorem dL_law__378 : decode cL_law_ 378 = .ok (.invokevirtual 144, 3) := by decide +kernel
theorem dL_law__381 : decode cL_law_ 381 = .ok (.if_icmp .eq 2584, 3) := by decide +kernel
def lc_1 (xs : Nat → Int32) (n : Nat) (K : Int32 → Mem → Option Unit) (i : Int32) (μ : Mem) : Option Unit := ix (i + 1) n ((f_X9_end μ (xs (i + 1).toNatClampNeg)).bind fun (q1 : Int32 × Mem) => ix (i + 1) n ((f_X10_end q1.2 (xs (i + 1).toNatClampNeg)).bind fun (q2 : Int32 × Mem) => if q1.1 = q2.1 then (K i q2.2) else (none)))
set_option maxHeartbeats 4000000 in
set_option maxRecDepth 100000 in
theorem hlc_1 {G : GG} {C : CX} {Q : Unit → State → Prop} {kc ks b n : Nat} {xs : Nat → Int32} {K : Int32 → Mem → Option Unit} (hl0 : C.2.1.stackTraces = false) (hC : CO G C "SaturdayKeepLaw" cL_law_ 7 62 kc ks (some .boolean)) (hC1 : CO G C "SaturdayKeepLaw" cL_law_ 7 62 (kc + 1) (ks + 6) (some .boolean)) (hX : SC G C b n xs) (hK : ∀ i μ, AW G C Q (kc + 1) (ks + 6) 7 μ 2965 [some (.ref b), some (.ref (gad G 0 0)), some (.ref (gad G 0 12)), some (.ref (gad G 0 22)), some (.int i), none, none] [] (K i μ)) (i : Int32) (μ : Mem) : AW G C Q kc ks 7 μ 361 [some (.ref b), some (.ref (gad G 0 0)), some (.ref (gad G 0 12)), some (.ref (gad G 0 22)), some (.int i), none, none] [] (lc_1 xs n K i μ) := by
  have hK0 := fun i μ => aw_wide (Nat.le_succ kc) (Nat.le_add_right ks 6) (hK i μ)
  delta lc_1
  refine aw_aload_n (pc := 361) (i := 1) hC dL_law__361 rfl rfl ?_
  refine aw_aload_n (pc := 362) (i := 0) hC dL_law__362 rfl rfl ?_
  refine aw_iload (pc := 363) hC dL_law__363 rfl ?_
  refine aw_iconst (pc := 365) (v := 1) hC dL_law__365 ic1 ?_
  refine aw_iadd (pc := 366) hC dL_law__366 ?_
  refine aw_sld (pc := 367) hC hX dL_law__367 ?_
  refine aw_callVI (pc := 368) (As := [.int (xs (i + 1).toNatClampNeg)]) hC mb_X9_end kw318 (by decide) (c_X9_end G C.2.1   μ (xs (i + 1).toNatClampNeg)) (v0 (j := 0) (by decide)) rfl rfl rfl (Nat.le_of_ble_eq_true rfl) dL_law__368 (fun q1 => ?_)
  refine aw_aload_n (pc := 371) (i := 2) hC dL_law__371 rfl rfl ?_
  refine aw_aload_n (pc := 372) (i := 0) hC dL_law__372 rfl rfl ?_
  refine aw_iload (pc := 373) hC dL_law__373 rfl ?_
  refine aw_iconst (pc := 375) (v := 1) hC dL_law__375 ic1 ?_
  refine aw_iadd (pc := 376) hC dL_law__376 ?_
  refine aw_sld (pc := 377) hC hX dL_law__377 ?_
  refine aw_callVI (pc := 378) (As := [.int (xs (i + 1).toNatClampNeg)]) hC mb_X10_end kw1390 (by decide) (c_X10_end G C.2.1   q1.2 (xs (i + 1).toNatClampNeg)) (v0 (j := 12) (by decide)) rfl rfl rfl (Nat.le_of_ble_eq_true rfl) dL_law__378 (fun q2 => ?_)
  refine aw_icmp_eq (pc := 381) (tgt := 2965) hC dL_law__381 (by decide) (fun _ => ?_) (fun _ => ?_)
  · skip
    exact hK0 i q2.2
  · skip
    exact aw_none
theorem dL_law__386 : decode cL_law_ 386 = .ok (.aload_n 1, 1) := by decide +kernel
theorem dL_law__387 : decode cL_law_ 387 = .ok (.aload_n 3, 1) := by decide +kernel
theorem dL_law__388 : decode cL_law_ 388 = .ok (.invokestatic 145, 3) := by decide +kernel
theorem dL_law__391 : decode cL_law_ 391 = .ok (.istore 5, 2) := by decide +kernel
theorem dL_law__393 : decode cL_law_ 393 = .ok (.aload_n 2, 1) := by decide +kernel
theorem dL_law__394 : decode cL_law_ 394 = .ok (.invokevirtual 150, 3) := by decide +kernel
theorem dL_law__397 : decode cL_law_ 397 = .ok (.istore 6, 2) := by decide +kernel
theorem dL_law__399 : decode cL_law_ 399 = .ok (.aload_n 2, 1) := by decide +kernel
theorem dL_law__400 : decode cL_law_ 400 = .ok (.invokevirtual 151, 3) := by decide +kernel
theorem dL_law__403 : decode cL_law_ 403 = .ok (.iload 5, 2) := by decide +kernel
theorem dL_law__405 : decode cL_law_ 405 = .ok (.if_icmp .eq 5, 3) := by decide +kernel
theorem dL_law__410 : decode cL_law_ 410 = .ok (.iload 5, 2) := by decide +kernel
theorem dL_law__412 : decode cL_law_ 412 = .ok (.ifCond .ne 15, 3) := by decide +kernel
theorem dL_law__415 : decode cL_law_ 415 = .ok (.aload_n 3, 1) := by decide +kernel
theorem dL_law__416 : decode cL_law_ 416 = .ok (.iconst 0, 1) := by decide +kernel
theorem dL_law__417 : decode cL_law_ 417 = .ok (.laload, 1) := by decide +kernel
theorem dL_law__418 : decode cL_law_ 418 = .ok (.iload 6, 2) := by decide +kernel
theorem dL_law__420 : decode cL_law_ 420 = .ok (.i2l, 1) := by decide +kernel
theorem dL_law__421 : decode cL_law_ 421 = .ok (.lcmp, 1) := by decide +kernel
theorem dL_law__422 : decode cL_law_ 422 = .ok (.ifCond .eq 5, 3) := by decide +kernel
theorem dL_law__427 : decode cL_law_ 427 = .ok (.goto 2538, 3) := by decide +kernel
def lc_2 (xs : Nat → Int32) (n : Nat) (K : Int32 → Mem → Option Unit) (i : Int32) (μ : Mem) : Option Unit := (f_L_house μ).bind fun (q1 : Int32 × Mem) => (f_X10_house q1.2).bind fun (q2 : Int32 × Mem) => (f_X10_thrown q2.2).bind fun (q3 : Int32) => if q3 = q1.1 then (if q1.1 = 0 then (ix 0 1 (if (lg_cmp ((q2.2 0 22 (Int32.toNatClampNeg 0)).toInt64) q2.1.toInt64) = 0 then (K i q2.2) else (none))) else (K i q2.2)) else (none)
set_option maxHeartbeats 4000000 in
set_option maxRecDepth 100000 in
theorem hlc_2 {G : GG} {C : CX} {Q : Unit → State → Prop} {kc ks b n : Nat} {xs : Nat → Int32} {K : Int32 → Mem → Option Unit} (hl0 : C.2.1.stackTraces = false) (hC : CO G C "SaturdayKeepLaw" cL_law_ 7 62 kc ks (some .boolean)) (hC1 : CO G C "SaturdayKeepLaw" cL_law_ 7 62 (kc + 1) (ks + 6) (some .boolean)) (hX : SC G C b n xs) (hK : ∀ i μ, AW G C Q (kc + 1) (ks + 6) 7 μ 2965 [some (.ref b), some (.ref (gad G 0 0)), some (.ref (gad G 0 12)), some (.ref (gad G 0 22)), some (.int i), none, none] [] (K i μ)) (i : Int32) (μ : Mem) : AW G C Q kc ks 7 μ 386 [some (.ref b), some (.ref (gad G 0 0)), some (.ref (gad G 0 12)), some (.ref (gad G 0 22)), some (.int i), none, none] [] (lc_2 xs n K i μ) := by
  have hK0 := fun i μ => aw_wide (Nat.le_succ kc) (Nat.le_add_right ks 6) (hK i μ)
  delta lc_2
  refine aw_aload_n (pc := 386) (i := 1) hC dL_law__386 rfl rfl ?_
  refine aw_aload_n (pc := 387) (i := 3) hC dL_law__387 rfl rfl ?_
  refine aw_callSH (pc := 388) (As := [.ref (gad G 0 0), .ref (gad G 0 22)]) hC hC1 mw_L_house kw577 (by decide) (c_L_house G C.2.1 hl0 μ ) rfl (Nat.le_of_ble_eq_true rfl) dL_law__388 (fun q1 => ?_)
  refine aw_istore (pc := 391) hC1 dL_law__391 rfl (by decide) ?_
  refine aw_aload_n (pc := 393) (i := 2) hC1 dL_law__393 rfl rfl ?_
  refine aw_callVI (pc := 394) (As := []) hC1 mb_X10_house kw1397 (by decide) (c_X10_house G C.2.1   q1.2 ) (v0 (j := 12) (by decide)) rfl rfl rfl (Nat.le_of_ble_eq_true rfl) dL_law__394 (fun q2 => ?_)
  refine aw_istore (pc := 397) hC1 dL_law__397 rfl (by decide) ?_
  refine aw_aload_n (pc := 399) (i := 2) hC1 dL_law__399 rfl rfl ?_
  refine aw_callVR (pc := 400) (As := []) hC1 mb_X10_thrown kw1382 (by decide) (c_X10_thrown G C.2.1   q2.2 ) (v0 (j := 12) (by decide)) rfl rfl rfl (Nat.le_of_ble_eq_true rfl) dL_law__400 (fun q3 => ?_)
  refine aw_iload (pc := 403) hC1 dL_law__403 rfl ?_
  refine aw_icmp_eq (pc := 405) (tgt := 410) hC1 dL_law__405 (by decide) (fun _ => ?_) (fun _ => ?_)
  · skip
    refine aw_iload (pc := 410) hC1 dL_law__410 rfl ?_
    refine aw_if_ne (pc := 412) (tgt := 427) hC1 dL_law__412 (by decide) (fun _ => ?_) (fun _ => ?_)
    · skip
      refine aw_aload_n (pc := 415) (i := 3) hC1 dL_law__415 rfl rfl ?_
      refine aw_iconst (pc := 416) (v := 0) hC1 dL_law__416 ic0 ?_
      refine aw_laload (pc := 417) hC1 dL_law__417 ?_
      refine aw_iload (pc := 418) hC1 dL_law__418 rfl ?_
      refine aw_i2l (pc := 420) hC1 dL_law__420 ?_
      refine aw_lcmp (pc := 421) hC1 dL_law__421 ?_
      refine aw_if_eq (pc := 422) (tgt := 427) hC1 dL_law__422 (by decide) (fun _ => ?_) (fun _ => ?_)
      · skip
        refine aw_goto (pc := 427) (tgt := 2965) hC1 dL_law__427 (by decide) ?_
        exact aw_drop [5, 6] (hK i q2.2)
      · skip
        exact aw_none
    · skip
      refine aw_goto (pc := 427) (tgt := 2965) hC1 dL_law__427 (by decide) ?_
      exact aw_drop [5, 6] (hK i q2.2)
  · skip
    exact aw_none
theorem dL_law__430 : decode cL_law_ 430 = .ok (.aload_n 1, 1) := by decide +kernel
theorem dL_law__431 : decode cL_law_ 431 = .ok (.aload_n 3, 1) := by decide +kernel
theorem dL_law__432 : decode cL_law_ 432 = .ok (.invokestatic 154, 3) := by decide +kernel
theorem dL_law__435 : decode cL_law_ 435 = .ok (.istore 5, 2) := by decide +kernel
theorem dL_law__437 : decode cL_law_ 437 = .ok (.aload_n 2, 1) := by decide +kernel
theorem dL_law__438 : decode cL_law_ 438 = .ok (.invokevirtual 156, 3) := by decide +kernel
theorem dL_law__441 : decode cL_law_ 441 = .ok (.istore 6, 2) := by decide +kernel
theorem dL_law__443 : decode cL_law_ 443 = .ok (.aload_n 2, 1) := by decide +kernel
theorem dL_law__444 : decode cL_law_ 444 = .ok (.invokevirtual 151, 3) := by decide +kernel
theorem dL_law__447 : decode cL_law_ 447 = .ok (.iload 5, 2) := by decide +kernel
theorem dL_law__449 : decode cL_law_ 449 = .ok (.if_icmp .eq 5, 3) := by decide +kernel
theorem dL_law__454 : decode cL_law_ 454 = .ok (.iload 5, 2) := by decide +kernel
theorem dL_law__456 : decode cL_law_ 456 = .ok (.ifCond .ne 15, 3) := by decide +kernel
theorem dL_law__459 : decode cL_law_ 459 = .ok (.aload_n 3, 1) := by decide +kernel
theorem dL_law__460 : decode cL_law_ 460 = .ok (.iconst 0, 1) := by decide +kernel
theorem dL_law__461 : decode cL_law_ 461 = .ok (.laload, 1) := by decide +kernel
theorem dL_law__462 : decode cL_law_ 462 = .ok (.iload 6, 2) := by decide +kernel
theorem dL_law__464 : decode cL_law_ 464 = .ok (.i2l, 1) := by decide +kernel
theorem dL_law__465 : decode cL_law_ 465 = .ok (.lcmp, 1) := by decide +kernel
theorem dL_law__466 : decode cL_law_ 466 = .ok (.ifCond .eq 5, 3) := by decide +kernel
theorem dL_law__471 : decode cL_law_ 471 = .ok (.goto 2494, 3) := by decide +kernel
def lc_3 (xs : Nat → Int32) (n : Nat) (K : Int32 → Mem → Option Unit) (i : Int32) (μ : Mem) : Option Unit := (f_L_law μ).bind fun (q1 : Int32 × Mem) => (f_X10_law q1.2).bind fun (q2 : Int32 × Mem) => (f_X10_thrown q2.2).bind fun (q3 : Int32) => if q3 = q1.1 then (if q1.1 = 0 then (ix 0 1 (if (lg_cmp ((q2.2 0 22 (Int32.toNatClampNeg 0)).toInt64) q2.1.toInt64) = 0 then (K i q2.2) else (none))) else (K i q2.2)) else (none)
set_option maxHeartbeats 4000000 in
set_option maxRecDepth 100000 in
theorem hlc_3 {G : GG} {C : CX} {Q : Unit → State → Prop} {kc ks b n : Nat} {xs : Nat → Int32} {K : Int32 → Mem → Option Unit} (hl0 : C.2.1.stackTraces = false) (hC : CO G C "SaturdayKeepLaw" cL_law_ 7 62 kc ks (some .boolean)) (hC1 : CO G C "SaturdayKeepLaw" cL_law_ 7 62 (kc + 1) (ks + 6) (some .boolean)) (hX : SC G C b n xs) (hK : ∀ i μ, AW G C Q (kc + 1) (ks + 6) 7 μ 2965 [some (.ref b), some (.ref (gad G 0 0)), some (.ref (gad G 0 12)), some (.ref (gad G 0 22)), some (.int i), none, none] [] (K i μ)) (i : Int32) (μ : Mem) : AW G C Q kc ks 7 μ 430 [some (.ref b), some (.ref (gad G 0 0)), some (.ref (gad G 0 12)), some (.ref (gad G 0 22)), some (.int i), none, none] [] (lc_3 xs n K i μ) := by
  have hK0 := fun i μ => aw_wide (Nat.le_succ kc) (Nat.le_add_right ks 6) (hK i μ)
  delta lc_3
  refine aw_aload_n (pc := 430) (i := 1) hC dL_law__430 rfl rfl ?_
  refine aw_aload_n (pc := 431) (i := 3) hC dL_law__431 rfl rfl ?_
  refine aw_callSH (pc := 432) (As := [.ref (gad G 0 0), .ref (gad G 0 22)]) hC hC1 mw_L_law kw830 (by decide) (c_L_law G C.2.1 hl0 μ ) rfl (Nat.le_of_ble_eq_true rfl) dL_law__432 (fun q1 => ?_)
  refine aw_istore (pc := 435) hC1 dL_law__435 rfl (by decide) ?_
  refine aw_aload_n (pc := 437) (i := 2) hC1 dL_law__437 rfl rfl ?_
  refine aw_callVI (pc := 438) (As := []) hC1 mb_X10_law kw1523 (by decide) (c_X10_law G C.2.1   q1.2 ) (v0 (j := 12) (by decide)) rfl rfl rfl (Nat.le_of_ble_eq_true rfl) dL_law__438 (fun q2 => ?_)
  refine aw_istore (pc := 441) hC1 dL_law__441 rfl (by decide) ?_
  refine aw_aload_n (pc := 443) (i := 2) hC1 dL_law__443 rfl rfl ?_
  refine aw_callVR (pc := 444) (As := []) hC1 mb_X10_thrown kw1382 (by decide) (c_X10_thrown G C.2.1   q2.2 ) (v0 (j := 12) (by decide)) rfl rfl rfl (Nat.le_of_ble_eq_true rfl) dL_law__444 (fun q3 => ?_)
  refine aw_iload (pc := 447) hC1 dL_law__447 rfl ?_
  refine aw_icmp_eq (pc := 449) (tgt := 454) hC1 dL_law__449 (by decide) (fun _ => ?_) (fun _ => ?_)
  · skip
    refine aw_iload (pc := 454) hC1 dL_law__454 rfl ?_
    refine aw_if_ne (pc := 456) (tgt := 471) hC1 dL_law__456 (by decide) (fun _ => ?_) (fun _ => ?_)
    · skip
      refine aw_aload_n (pc := 459) (i := 3) hC1 dL_law__459 rfl rfl ?_
      refine aw_iconst (pc := 460) (v := 0) hC1 dL_law__460 ic0 ?_
      refine aw_laload (pc := 461) hC1 dL_law__461 ?_
      refine aw_iload (pc := 462) hC1 dL_law__462 rfl ?_
      refine aw_i2l (pc := 464) hC1 dL_law__464 ?_
      refine aw_lcmp (pc := 465) hC1 dL_law__465 ?_
      refine aw_if_eq (pc := 466) (tgt := 471) hC1 dL_law__466 (by decide) (fun _ => ?_) (fun _ => ?_)
      · skip
        refine aw_goto (pc := 471) (tgt := 2965) hC1 dL_law__471 (by decide) ?_
        exact aw_drop [5, 6] (hK i q2.2)
      · skip
        exact aw_none
    · skip
      refine aw_goto (pc := 471) (tgt := 2965) hC1 dL_law__471 (by decide) ?_
      exact aw_drop [5, 6] (hK i q2.2)
  · skip
    exact aw_none
theorem dL_law__474 : decode cL_law_ 474 = .ok (.aload_n 1, 1) := by decide +kernel
theorem dL_law__475 : decode cL_law_ 475 = .ok (.invokevirtual 157, 3) := by decide +kernel
theorem dL_law__478 : decode cL_law_ 478 = .ok (.aload_n 2, 1) := by decide +kernel
theorem dL_law__479 : decode cL_law_ 479 = .ok (.invokevirtual 160, 3) := by decide +kernel
theorem dL_law__482 : decode cL_law_ 482 = .ok (.if_icmp .eq 2483, 3) := by decide +kernel
def lc_4 (xs : Nat → Int32) (n : Nat) (K : Int32 → Mem → Option Unit) (i : Int32) (μ : Mem) : Option Unit := (f_X9_fault μ).bind fun (q1 : Int32) => (f_X10_fault μ).bind fun (q2 : Int32 × Mem) => if q1 = q2.1 then (K i q2.2) else (none)
set_option maxHeartbeats 4000000 in
set_option maxRecDepth 100000 in
theorem hlc_4 {G : GG} {C : CX} {Q : Unit → State → Prop} {kc ks b n : Nat} {xs : Nat → Int32} {K : Int32 → Mem → Option Unit} (hl0 : C.2.1.stackTraces = false) (hC : CO G C "SaturdayKeepLaw" cL_law_ 7 62 kc ks (some .boolean)) (hC1 : CO G C "SaturdayKeepLaw" cL_law_ 7 62 (kc + 1) (ks + 6) (some .boolean)) (hX : SC G C b n xs) (hK : ∀ i μ, AW G C Q (kc + 1) (ks + 6) 7 μ 2965 [some (.ref b), some (.ref (gad G 0 0)), some (.ref (gad G 0 12)), some (.ref (gad G 0 22)), some (.int i), none, none] [] (K i μ)) (i : Int32) (μ : Mem) : AW G C Q kc ks 7 μ 474 [some (.ref b), some (.ref (gad G 0 0)), some (.ref (gad G 0 12)), some (.ref (gad G 0 22)), some (.int i), none, none] [] (lc_4 xs n K i μ) := by
  have hK0 := fun i μ => aw_wide (Nat.le_succ kc) (Nat.le_add_right ks 6) (hK i μ)
  delta lc_4
  refine aw_aload_n (pc := 474) (i := 1) hC dL_law__474 rfl rfl ?_
  refine aw_callVR (pc := 475) (As := []) hC mb_X9_fault kw322 (by decide) (c_X9_fault G C.2.1   μ ) (v0 (j := 0) (by decide)) rfl rfl rfl (Nat.le_of_ble_eq_true rfl) dL_law__475 (fun q1 => ?_)
  refine aw_aload_n (pc := 478) (i := 2) hC dL_law__478 rfl rfl ?_
  refine aw_callVI (pc := 479) (As := []) hC mb_X10_fault kw1527 (by decide) (c_X10_fault G C.2.1   μ ) (v0 (j := 12) (by decide)) rfl rfl rfl (Nat.le_of_ble_eq_true rfl) dL_law__479 (fun q2 => ?_)
  refine aw_icmp_eq (pc := 482) (tgt := 2965) hC dL_law__482 (by decide) (fun _ => ?_) (fun _ => ?_)
  · skip
    exact hK0 i q2.2
  · skip
    exact aw_none
theorem dL_law__487 : decode cL_law_ 487 = .ok (.aload_n 1, 1) := by decide +kernel
theorem dL_law__488 : decode cL_law_ 488 = .ok (.aload_n 0, 1) := by decide +kernel
theorem dL_law__489 : decode cL_law_ 489 = .ok (.iload 4, 2) := by decide +kernel
theorem dL_law__491 : decode cL_law_ 491 = .ok (.iconst 1, 1) := by decide +kernel
theorem dL_law__492 : decode cL_law_ 492 = .ok (.iadd, 1) := by decide +kernel
theorem dL_law__493 : decode cL_law_ 493 = .ok (.iaload, 1) := by decide +kernel
theorem dL_law__494 : decode cL_law_ 494 = .ok (.aload_n 0, 1) := by decide +kernel
theorem dL_law__495 : decode cL_law_ 495 = .ok (.iload 4, 2) := by decide +kernel
theorem dL_law__497 : decode cL_law_ 497 = .ok (.iconst 2, 1) := by decide +kernel
theorem dL_law__498 : decode cL_law_ 498 = .ok (.iadd, 1) := by decide +kernel
theorem dL_law__499 : decode cL_law_ 499 = .ok (.iaload, 1) := by decide +kernel
theorem dL_law__500 : decode cL_law_ 500 = .ok (.aload_n 3, 1) := by decide +kernel
theorem dL_law__501 : decode cL_law_ 501 = .ok (.invokestatic 161, 3) := by decide +kernel
theorem dL_law__504 : decode cL_law_ 504 = .ok (.istore 5, 2) := by decide +kernel
theorem dL_law__506 : decode cL_law_ 506 = .ok (.aload_n 2, 1) := by decide +kernel
theorem dL_law__507 : decode cL_law_ 507 = .ok (.aload_n 0, 1) := by decide +kernel
theorem dL_law__508 : decode cL_law_ 508 = .ok (.iload 4, 2) := by decide +kernel
theorem dL_law__510 : decode cL_law_ 510 = .ok (.iconst 1, 1) := by decide +kernel
theorem dL_law__511 : decode cL_law_ 511 = .ok (.iadd, 1) := by decide +kernel
theorem dL_law__512 : decode cL_law_ 512 = .ok (.iaload, 1) := by decide +kernel
theorem dL_law__513 : decode cL_law_ 513 = .ok (.aload_n 0, 1) := by decide +kernel
theorem dL_law__514 : decode cL_law_ 514 = .ok (.iload 4, 2) := by decide +kernel
theorem dL_law__516 : decode cL_law_ 516 = .ok (.iconst 2, 1) := by decide +kernel
theorem dL_law__517 : decode cL_law_ 517 = .ok (.iadd, 1) := by decide +kernel
theorem dL_law__518 : decode cL_law_ 518 = .ok (.iaload, 1) := by decide +kernel
theorem dL_law__519 : decode cL_law_ 519 = .ok (.invokevirtual 164, 3) := by decide +kernel
theorem dL_law__522 : decode cL_law_ 522 = .ok (.istore 6, 2) := by decide +kernel
theorem dL_law__524 : decode cL_law_ 524 = .ok (.aload_n 2, 1) := by decide +kernel
theorem dL_law__525 : decode cL_law_ 525 = .ok (.invokevirtual 151, 3) := by decide +kernel
theorem dL_law__528 : decode cL_law_ 528 = .ok (.iload 5, 2) := by decide +kernel
theorem dL_law__530 : decode cL_law_ 530 = .ok (.if_icmp .eq 5, 3) := by decide +kernel
theorem dL_law__535 : decode cL_law_ 535 = .ok (.iload 5, 2) := by decide +kernel
theorem dL_law__537 : decode cL_law_ 537 = .ok (.ifCond .ne 15, 3) := by decide +kernel
theorem dL_law__540 : decode cL_law_ 540 = .ok (.aload_n 3, 1) := by decide +kernel
theorem dL_law__541 : decode cL_law_ 541 = .ok (.iconst 0, 1) := by decide +kernel
theorem dL_law__542 : decode cL_law_ 542 = .ok (.laload, 1) := by decide +kernel
theorem dL_law__543 : decode cL_law_ 543 = .ok (.iload 6, 2) := by decide +kernel
theorem dL_law__545 : decode cL_law_ 545 = .ok (.i2l, 1) := by decide +kernel
theorem dL_law__546 : decode cL_law_ 546 = .ok (.lcmp, 1) := by decide +kernel
theorem dL_law__547 : decode cL_law_ 547 = .ok (.ifCond .eq 5, 3) := by decide +kernel
theorem dL_law__552 : decode cL_law_ 552 = .ok (.goto 2413, 3) := by decide +kernel
def lc_5 (xs : Nat → Int32) (n : Nat) (K : Int32 → Mem → Option Unit) (i : Int32) (μ : Mem) : Option Unit := ix (i + 1) n (ix (i + 2) n ((f_L_guest μ (xs (i + 1).toNatClampNeg) (xs (i + 2).toNatClampNeg)).bind fun (q1 : Int32 × Mem) => ix (i + 1) n (ix (i + 2) n ((f_X10_guest q1.2 (xs (i + 1).toNatClampNeg) (xs (i + 2).toNatClampNeg)).bind fun (q2 : Int32 × Mem) => (f_X10_thrown q2.2).bind fun (q3 : Int32) => if q3 = q1.1 then (if q1.1 = 0 then (ix 0 1 (if (lg_cmp ((q2.2 0 22 (Int32.toNatClampNeg 0)).toInt64) q2.1.toInt64) = 0 then (K i q2.2) else (none))) else (K i q2.2)) else (none)))))
set_option maxHeartbeats 4000000 in
set_option maxRecDepth 100000 in
theorem hlc_5 {G : GG} {C : CX} {Q : Unit → State → Prop} {kc ks b n : Nat} {xs : Nat → Int32} {K : Int32 → Mem → Option Unit} (hl0 : C.2.1.stackTraces = false) (hC : CO G C "SaturdayKeepLaw" cL_law_ 7 62 kc ks (some .boolean)) (hC1 : CO G C "SaturdayKeepLaw" cL_law_ 7 62 (kc + 1) (ks + 6) (some .boolean)) (hX : SC G C b n xs) (hK : ∀ i μ, AW G C Q (kc + 1) (ks + 6) 7 μ 2965 [some (.ref b), some (.ref (gad G 0 0)), some (.ref (gad G 0 12)), some (.ref (gad G 0 22)), some (.int i), none, none] [] (K i μ)) (i : Int32) (μ : Mem) : AW G C Q kc ks 7 μ 487 [some (.ref b), some (.ref (gad G 0 0)), some (.ref (gad G 0 12)), some (.ref (gad G 0 22)), some (.int i), none, none] [] (lc_5 xs n K i μ) := by
  have hK0 := fun i μ => aw_wide (Nat.le_succ kc) (Nat.le_add_right ks 6) (hK i μ)
  delta lc_5
  refine aw_aload_n (pc := 487) (i := 1) hC dL_law__487 rfl rfl ?_
  refine aw_aload_n (pc := 488) (i := 0) hC dL_law__488 rfl rfl ?_
  refine aw_iload (pc := 489) hC dL_law__489 rfl ?_
  refine aw_iconst (pc := 491) (v := 1) hC dL_law__491 ic1 ?_
  refine aw_iadd (pc := 492) hC dL_law__492 ?_
  refine aw_sld (pc := 493) hC hX dL_law__493 ?_
  refine aw_aload_n (pc := 494) (i := 0) hC dL_law__494 rfl rfl ?_
  refine aw_iload (pc := 495) hC dL_law__495 rfl ?_
  refine aw_iconst (pc := 497) (v := 2) hC dL_law__497 ic2 ?_
  refine aw_iadd (pc := 498) hC dL_law__498 ?_
  refine aw_sld (pc := 499) hC hX dL_law__499 ?_
  refine aw_aload_n (pc := 500) (i := 3) hC dL_law__500 rfl rfl ?_
  refine aw_callSH (pc := 501) (As := [.ref (gad G 0 0), .int (xs (i + 1).toNatClampNeg), .int (xs (i + 2).toNatClampNeg), .ref (gad G 0 22)]) hC hC1 mw_L_guest kw870 (by decide) (c_L_guest G C.2.1 hl0 μ (xs (i + 1).toNatClampNeg) (xs (i + 2).toNatClampNeg)) rfl (Nat.le_of_ble_eq_true rfl) dL_law__501 (fun q1 => ?_)
  refine aw_istore (pc := 504) hC1 dL_law__504 rfl (by decide) ?_
  refine aw_aload_n (pc := 506) (i := 2) hC1 dL_law__506 rfl rfl ?_
  refine aw_aload_n (pc := 507) (i := 0) hC1 dL_law__507 rfl rfl ?_
  refine aw_iload (pc := 508) hC1 dL_law__508 rfl ?_
  refine aw_iconst (pc := 510) (v := 1) hC1 dL_law__510 ic1 ?_
  refine aw_iadd (pc := 511) hC1 dL_law__511 ?_
  refine aw_sld (pc := 512) hC1 hX dL_law__512 ?_
  refine aw_aload_n (pc := 513) (i := 0) hC1 dL_law__513 rfl rfl ?_
  refine aw_iload (pc := 514) hC1 dL_law__514 rfl ?_
  refine aw_iconst (pc := 516) (v := 2) hC1 dL_law__516 ic2 ?_
  refine aw_iadd (pc := 517) hC1 dL_law__517 ?_
  refine aw_sld (pc := 518) hC1 hX dL_law__518 ?_
  refine aw_callVI (pc := 519) (As := [.int (xs (i + 1).toNatClampNeg), .int (xs (i + 2).toNatClampNeg)]) hC1 mb_X10_guest kw1531 (by decide) (c_X10_guest G C.2.1   q1.2 (xs (i + 1).toNatClampNeg) (xs (i + 2).toNatClampNeg)) (v0 (j := 12) (by decide)) rfl rfl rfl (Nat.le_of_ble_eq_true rfl) dL_law__519 (fun q2 => ?_)
  refine aw_istore (pc := 522) hC1 dL_law__522 rfl (by decide) ?_
  refine aw_aload_n (pc := 524) (i := 2) hC1 dL_law__524 rfl rfl ?_
  refine aw_callVR (pc := 525) (As := []) hC1 mb_X10_thrown kw1382 (by decide) (c_X10_thrown G C.2.1   q2.2 ) (v0 (j := 12) (by decide)) rfl rfl rfl (Nat.le_of_ble_eq_true rfl) dL_law__525 (fun q3 => ?_)
  refine aw_iload (pc := 528) hC1 dL_law__528 rfl ?_
  refine aw_icmp_eq (pc := 530) (tgt := 535) hC1 dL_law__530 (by decide) (fun _ => ?_) (fun _ => ?_)
  · skip
    refine aw_iload (pc := 535) hC1 dL_law__535 rfl ?_
    refine aw_if_ne (pc := 537) (tgt := 552) hC1 dL_law__537 (by decide) (fun _ => ?_) (fun _ => ?_)
    · skip
      refine aw_aload_n (pc := 540) (i := 3) hC1 dL_law__540 rfl rfl ?_
      refine aw_iconst (pc := 541) (v := 0) hC1 dL_law__541 ic0 ?_
      refine aw_laload (pc := 542) hC1 dL_law__542 ?_
      refine aw_iload (pc := 543) hC1 dL_law__543 rfl ?_
      refine aw_i2l (pc := 545) hC1 dL_law__545 ?_
      refine aw_lcmp (pc := 546) hC1 dL_law__546 ?_
      refine aw_if_eq (pc := 547) (tgt := 552) hC1 dL_law__547 (by decide) (fun _ => ?_) (fun _ => ?_)
      · skip
        refine aw_goto (pc := 552) (tgt := 2965) hC1 dL_law__552 (by decide) ?_
        exact aw_drop [5, 6] (hK i q2.2)
      · skip
        exact aw_none
    · skip
      refine aw_goto (pc := 552) (tgt := 2965) hC1 dL_law__552 (by decide) ?_
      exact aw_drop [5, 6] (hK i q2.2)
  · skip
    exact aw_none
theorem dL_law__555 : decode cL_law_ 555 = .ok (.aload_n 1, 1) := by decide +kernel
theorem dL_law__556 : decode cL_law_ 556 = .ok (.aload_n 0, 1) := by decide +kernel
theorem dL_law__557 : decode cL_law_ 557 = .ok (.iload 4, 2) := by decide +kernel
theorem dL_law__559 : decode cL_law_ 559 = .ok (.iconst 1, 1) := by decide +kernel
theorem dL_law__560 : decode cL_law_ 560 = .ok (.iadd, 1) := by decide +kernel
theorem dL_law__561 : decode cL_law_ 561 = .ok (.iaload, 1) := by decide +kernel
theorem dL_law__562 : decode cL_law_ 562 = .ok (.aload_n 0, 1) := by decide +kernel
theorem dL_law__563 : decode cL_law_ 563 = .ok (.iload 4, 2) := by decide +kernel
theorem dL_law__565 : decode cL_law_ 565 = .ok (.iconst 2, 1) := by decide +kernel
theorem dL_law__566 : decode cL_law_ 566 = .ok (.iadd, 1) := by decide +kernel
theorem dL_law__567 : decode cL_law_ 567 = .ok (.iaload, 1) := by decide +kernel
theorem dL_law__568 : decode cL_law_ 568 = .ok (.aload_n 3, 1) := by decide +kernel
theorem dL_law__569 : decode cL_law_ 569 = .ok (.invokestatic 165, 3) := by decide +kernel
theorem dL_law__572 : decode cL_law_ 572 = .ok (.istore 5, 2) := by decide +kernel
theorem dL_law__574 : decode cL_law_ 574 = .ok (.aload_n 2, 1) := by decide +kernel
theorem dL_law__575 : decode cL_law_ 575 = .ok (.aload_n 0, 1) := by decide +kernel
theorem dL_law__576 : decode cL_law_ 576 = .ok (.iload 4, 2) := by decide +kernel
theorem dL_law__578 : decode cL_law_ 578 = .ok (.iconst 1, 1) := by decide +kernel
theorem dL_law__579 : decode cL_law_ 579 = .ok (.iadd, 1) := by decide +kernel
theorem dL_law__580 : decode cL_law_ 580 = .ok (.iaload, 1) := by decide +kernel
theorem dL_law__581 : decode cL_law_ 581 = .ok (.aload_n 0, 1) := by decide +kernel
theorem dL_law__582 : decode cL_law_ 582 = .ok (.iload 4, 2) := by decide +kernel
theorem dL_law__584 : decode cL_law_ 584 = .ok (.iconst 2, 1) := by decide +kernel
theorem dL_law__585 : decode cL_law_ 585 = .ok (.iadd, 1) := by decide +kernel
theorem dL_law__586 : decode cL_law_ 586 = .ok (.iaload, 1) := by decide +kernel
theorem dL_law__587 : decode cL_law_ 587 = .ok (.invokevirtual 167, 3) := by decide +kernel
theorem dL_law__590 : decode cL_law_ 590 = .ok (.istore 6, 2) := by decide +kernel
theorem dL_law__592 : decode cL_law_ 592 = .ok (.aload_n 2, 1) := by decide +kernel
theorem dL_law__593 : decode cL_law_ 593 = .ok (.invokevirtual 151, 3) := by decide +kernel
theorem dL_law__596 : decode cL_law_ 596 = .ok (.iload 5, 2) := by decide +kernel
theorem dL_law__598 : decode cL_law_ 598 = .ok (.if_icmp .eq 5, 3) := by decide +kernel
theorem dL_law__603 : decode cL_law_ 603 = .ok (.iload 5, 2) := by decide +kernel
theorem dL_law__605 : decode cL_law_ 605 = .ok (.ifCond .ne 15, 3) := by decide +kernel
theorem dL_law__608 : decode cL_law_ 608 = .ok (.aload_n 3, 1) := by decide +kernel
theorem dL_law__609 : decode cL_law_ 609 = .ok (.iconst 0, 1) := by decide +kernel
theorem dL_law__610 : decode cL_law_ 610 = .ok (.laload, 1) := by decide +kernel
theorem dL_law__611 : decode cL_law_ 611 = .ok (.iload 6, 2) := by decide +kernel
theorem dL_law__613 : decode cL_law_ 613 = .ok (.i2l, 1) := by decide +kernel
theorem dL_law__614 : decode cL_law_ 614 = .ok (.lcmp, 1) := by decide +kernel
theorem dL_law__615 : decode cL_law_ 615 = .ok (.ifCond .eq 5, 3) := by decide +kernel
theorem dL_law__620 : decode cL_law_ 620 = .ok (.goto 2345, 3) := by decide +kernel
def lc_6 (xs : Nat → Int32) (n : Nat) (K : Int32 → Mem → Option Unit) (i : Int32) (μ : Mem) : Option Unit := ix (i + 1) n (ix (i + 2) n ((f_L_room μ (xs (i + 1).toNatClampNeg) (xs (i + 2).toNatClampNeg)).bind fun (q1 : Int32 × Mem) => ix (i + 1) n (ix (i + 2) n ((f_X10_room q1.2 (xs (i + 1).toNatClampNeg) (xs (i + 2).toNatClampNeg)).bind fun (q2 : Int32 × Mem) => (f_X10_thrown q2.2).bind fun (q3 : Int32) => if q3 = q1.1 then (if q1.1 = 0 then (ix 0 1 (if (lg_cmp ((q2.2 0 22 (Int32.toNatClampNeg 0)).toInt64) q2.1.toInt64) = 0 then (K i q2.2) else (none))) else (K i q2.2)) else (none)))))
set_option maxHeartbeats 4000000 in
set_option maxRecDepth 100000 in
theorem hlc_6 {G : GG} {C : CX} {Q : Unit → State → Prop} {kc ks b n : Nat} {xs : Nat → Int32} {K : Int32 → Mem → Option Unit} (hl0 : C.2.1.stackTraces = false) (hC : CO G C "SaturdayKeepLaw" cL_law_ 7 62 kc ks (some .boolean)) (hC1 : CO G C "SaturdayKeepLaw" cL_law_ 7 62 (kc + 1) (ks + 6) (some .boolean)) (hX : SC G C b n xs) (hK : ∀ i μ, AW G C Q (kc + 1) (ks + 6) 7 μ 2965 [some (.ref b), some (.ref (gad G 0 0)), some (.ref (gad G 0 12)), some (.ref (gad G 0 22)), some (.int i), none, none] [] (K i μ)) (i : Int32) (μ : Mem) : AW G C Q kc ks 7 μ 555 [some (.ref b), some (.ref (gad G 0 0)), some (.ref (gad G 0 12)), some (.ref (gad G 0 22)), some (.int i), none, none] [] (lc_6 xs n K i μ) := by
  have hK0 := fun i μ => aw_wide (Nat.le_succ kc) (Nat.le_add_right ks 6) (hK i μ)
  delta lc_6
  refine aw_aload_n (pc := 555) (i := 1) hC dL_law__555 rfl rfl ?_
  refine aw_aload_n (pc := 556) (i := 0) hC dL_law__556 rfl rfl ?_
  refine aw_iload (pc := 557) hC dL_law__557 rfl ?_
  refine aw_iconst (pc := 559) (v := 1) hC dL_law__559 ic1 ?_
  refine aw_iadd (pc := 560) hC dL_law__560 ?_
  refine aw_sld (pc := 561) hC hX dL_law__561 ?_
  refine aw_aload_n (pc := 562) (i := 0) hC dL_law__562 rfl rfl ?_
  refine aw_iload (pc := 563) hC dL_law__563 rfl ?_
  refine aw_iconst (pc := 565) (v := 2) hC dL_law__565 ic2 ?_
  refine aw_iadd (pc := 566) hC dL_law__566 ?_
  refine aw_sld (pc := 567) hC hX dL_law__567 ?_
  refine aw_aload_n (pc := 568) (i := 3) hC dL_law__568 rfl rfl ?_
  refine aw_callSH (pc := 569) (As := [.ref (gad G 0 0), .int (xs (i + 1).toNatClampNeg), .int (xs (i + 2).toNatClampNeg), .ref (gad G 0 22)]) hC hC1 mw_L_room kw942 (by decide) (c_L_room G C.2.1 hl0 μ (xs (i + 1).toNatClampNeg) (xs (i + 2).toNatClampNeg)) rfl (Nat.le_of_ble_eq_true rfl) dL_law__569 (fun q1 => ?_)
  refine aw_istore (pc := 572) hC1 dL_law__572 rfl (by decide) ?_
  refine aw_aload_n (pc := 574) (i := 2) hC1 dL_law__574 rfl rfl ?_
  refine aw_aload_n (pc := 575) (i := 0) hC1 dL_law__575 rfl rfl ?_
  refine aw_iload (pc := 576) hC1 dL_law__576 rfl ?_
  refine aw_iconst (pc := 578) (v := 1) hC1 dL_law__578 ic1 ?_
  refine aw_iadd (pc := 579) hC1 dL_law__579 ?_
  refine aw_sld (pc := 580) hC1 hX dL_law__580 ?_
  refine aw_aload_n (pc := 581) (i := 0) hC1 dL_law__581 rfl rfl ?_
  refine aw_iload (pc := 582) hC1 dL_law__582 rfl ?_
  refine aw_iconst (pc := 584) (v := 2) hC1 dL_law__584 ic2 ?_
  refine aw_iadd (pc := 585) hC1 dL_law__585 ?_
  refine aw_sld (pc := 586) hC1 hX dL_law__586 ?_
  refine aw_callVI (pc := 587) (As := [.int (xs (i + 1).toNatClampNeg), .int (xs (i + 2).toNatClampNeg)]) hC1 mb_X10_room kw1581 (by decide) (c_X10_room G C.2.1   q1.2 (xs (i + 1).toNatClampNeg) (xs (i + 2).toNatClampNeg)) (v0 (j := 12) (by decide)) rfl rfl rfl (Nat.le_of_ble_eq_true rfl) dL_law__587 (fun q2 => ?_)
  refine aw_istore (pc := 590) hC1 dL_law__590 rfl (by decide) ?_
  refine aw_aload_n (pc := 592) (i := 2) hC1 dL_law__592 rfl rfl ?_
  refine aw_callVR (pc := 593) (As := []) hC1 mb_X10_thrown kw1382 (by decide) (c_X10_thrown G C.2.1   q2.2 ) (v0 (j := 12) (by decide)) rfl rfl rfl (Nat.le_of_ble_eq_true rfl) dL_law__593 (fun q3 => ?_)
  refine aw_iload (pc := 596) hC1 dL_law__596 rfl ?_
  refine aw_icmp_eq (pc := 598) (tgt := 603) hC1 dL_law__598 (by decide) (fun _ => ?_) (fun _ => ?_)
  · skip
    refine aw_iload (pc := 603) hC1 dL_law__603 rfl ?_
    refine aw_if_ne (pc := 605) (tgt := 620) hC1 dL_law__605 (by decide) (fun _ => ?_) (fun _ => ?_)
    · skip
      refine aw_aload_n (pc := 608) (i := 3) hC1 dL_law__608 rfl rfl ?_
      refine aw_iconst (pc := 609) (v := 0) hC1 dL_law__609 ic0 ?_
      refine aw_laload (pc := 610) hC1 dL_law__610 ?_
      refine aw_iload (pc := 611) hC1 dL_law__611 rfl ?_
      refine aw_i2l (pc := 613) hC1 dL_law__613 ?_
      refine aw_lcmp (pc := 614) hC1 dL_law__614 ?_
      refine aw_if_eq (pc := 615) (tgt := 620) hC1 dL_law__615 (by decide) (fun _ => ?_) (fun _ => ?_)
      · skip
        refine aw_goto (pc := 620) (tgt := 2965) hC1 dL_law__620 (by decide) ?_
        exact aw_drop [5, 6] (hK i q2.2)
      · skip
        exact aw_none
    · skip
      refine aw_goto (pc := 620) (tgt := 2965) hC1 dL_law__620 (by decide) ?_
      exact aw_drop [5, 6] (hK i q2.2)
  · skip
    exact aw_none
theorem dL_law__623 : decode cL_law_ 623 = .ok (.aload_n 1, 1) := by decide +kernel
theorem dL_law__624 : decode cL_law_ 624 = .ok (.aload_n 0, 1) := by decide +kernel
theorem dL_law__625 : decode cL_law_ 625 = .ok (.iload 4, 2) := by decide +kernel
theorem dL_law__627 : decode cL_law_ 627 = .ok (.iconst 1, 1) := by decide +kernel
theorem dL_law__628 : decode cL_law_ 628 = .ok (.iadd, 1) := by decide +kernel
theorem dL_law__629 : decode cL_law_ 629 = .ok (.iaload, 1) := by decide +kernel
theorem dL_law__630 : decode cL_law_ 630 = .ok (.aload_n 0, 1) := by decide +kernel
theorem dL_law__631 : decode cL_law_ 631 = .ok (.iload 4, 2) := by decide +kernel
theorem dL_law__633 : decode cL_law_ 633 = .ok (.iconst 2, 1) := by decide +kernel
theorem dL_law__634 : decode cL_law_ 634 = .ok (.iadd, 1) := by decide +kernel
theorem dL_law__635 : decode cL_law_ 635 = .ok (.iaload, 1) := by decide +kernel
theorem dL_law__636 : decode cL_law_ 636 = .ok (.ifCond .eq 7, 3) := by decide +kernel
theorem dL_law__639 : decode cL_law_ 639 = .ok (.iconst 1, 1) := by decide +kernel
theorem dL_law__640 : decode cL_law_ 640 = .ok (.goto 4, 3) := by decide +kernel
theorem dL_law__643 : decode cL_law_ 643 = .ok (.iconst 0, 1) := by decide +kernel
theorem dL_law__644 : decode cL_law_ 644 = .ok (.aload_n 3, 1) := by decide +kernel
theorem dL_law__645 : decode cL_law_ 645 = .ok (.invokestatic 168, 3) := by decide +kernel
theorem dL_law__648 : decode cL_law_ 648 = .ok (.istore 5, 2) := by decide +kernel
theorem dL_law__650 : decode cL_law_ 650 = .ok (.aload_n 2, 1) := by decide +kernel
theorem dL_law__651 : decode cL_law_ 651 = .ok (.aload_n 0, 1) := by decide +kernel
theorem dL_law__652 : decode cL_law_ 652 = .ok (.iload 4, 2) := by decide +kernel
theorem dL_law__654 : decode cL_law_ 654 = .ok (.iconst 1, 1) := by decide +kernel
theorem dL_law__655 : decode cL_law_ 655 = .ok (.iadd, 1) := by decide +kernel
theorem dL_law__656 : decode cL_law_ 656 = .ok (.iaload, 1) := by decide +kernel
theorem dL_law__657 : decode cL_law_ 657 = .ok (.aload_n 0, 1) := by decide +kernel
theorem dL_law__658 : decode cL_law_ 658 = .ok (.iload 4, 2) := by decide +kernel
theorem dL_law__660 : decode cL_law_ 660 = .ok (.iconst 2, 1) := by decide +kernel
theorem dL_law__661 : decode cL_law_ 661 = .ok (.iadd, 1) := by decide +kernel
theorem dL_law__662 : decode cL_law_ 662 = .ok (.iaload, 1) := by decide +kernel
theorem dL_law__663 : decode cL_law_ 663 = .ok (.ifCond .eq 7, 3) := by decide +kernel
theorem dL_law__666 : decode cL_law_ 666 = .ok (.iconst 1, 1) := by decide +kernel
theorem dL_law__667 : decode cL_law_ 667 = .ok (.goto 4, 3) := by decide +kernel
theorem dL_law__670 : decode cL_law_ 670 = .ok (.iconst 0, 1) := by decide +kernel
theorem dL_law__671 : decode cL_law_ 671 = .ok (.invokevirtual 171, 3) := by decide +kernel
theorem dL_law__674 : decode cL_law_ 674 = .ok (.istore 6, 2) := by decide +kernel
theorem dL_law__676 : decode cL_law_ 676 = .ok (.aload_n 2, 1) := by decide +kernel
theorem dL_law__677 : decode cL_law_ 677 = .ok (.invokevirtual 151, 3) := by decide +kernel
theorem dL_law__680 : decode cL_law_ 680 = .ok (.iload 5, 2) := by decide +kernel
theorem dL_law__682 : decode cL_law_ 682 = .ok (.if_icmp .eq 5, 3) := by decide +kernel
theorem dL_law__687 : decode cL_law_ 687 = .ok (.iload 5, 2) := by decide +kernel
theorem dL_law__689 : decode cL_law_ 689 = .ok (.ifCond .ne 15, 3) := by decide +kernel
theorem dL_law__692 : decode cL_law_ 692 = .ok (.aload_n 3, 1) := by decide +kernel
theorem dL_law__693 : decode cL_law_ 693 = .ok (.iconst 0, 1) := by decide +kernel
theorem dL_law__694 : decode cL_law_ 694 = .ok (.laload, 1) := by decide +kernel
theorem dL_law__695 : decode cL_law_ 695 = .ok (.iload 6, 2) := by decide +kernel
theorem dL_law__697 : decode cL_law_ 697 = .ok (.i2l, 1) := by decide +kernel
theorem dL_law__698 : decode cL_law_ 698 = .ok (.lcmp, 1) := by decide +kernel
theorem dL_law__699 : decode cL_law_ 699 = .ok (.ifCond .eq 5, 3) := by decide +kernel
theorem dL_law__704 : decode cL_law_ 704 = .ok (.goto 2261, 3) := by decide +kernel
def lc_7 (xs : Nat → Int32) (n : Nat) (K : Int32 → Mem → Option Unit) (i : Int32) (μ : Mem) : Option Unit := ix (i + 1) n (ix (i + 2) n (nm (fun (x1 : Int32) => (f_L_calendar μ (xs (i + 1).toNatClampNeg) x1).bind fun (q2 : Int32 × Mem) => ix (i + 1) n (ix (i + 2) n (nm (fun (x3 : Int32) => (f_X10_calendar q2.2 (xs (i + 1).toNatClampNeg) x3).bind fun (q4 : Int32 × Mem) => (f_X10_thrown q4.2).bind fun (q5 : Int32) => if q5 = q2.1 then (if q2.1 = 0 then (ix 0 1 (if (lg_cmp ((q4.2 0 22 (Int32.toNatClampNeg 0)).toInt64) q4.1.toInt64) = 0 then (K i q4.2) else (none))) else (K i q4.2)) else (none)) fun (J671 : Int32 → Option Unit) => if (xs (i + 2).toNatClampNeg) = 0 then (J671 0) else (J671 1)))) fun (J644 : Int32 → Option Unit) => if (xs (i + 2).toNatClampNeg) = 0 then (J644 0) else (J644 1)))
set_option maxHeartbeats 4000000 in
set_option maxRecDepth 100000 in
theorem hlc_7 {G : GG} {C : CX} {Q : Unit → State → Prop} {kc ks b n : Nat} {xs : Nat → Int32} {K : Int32 → Mem → Option Unit} (hl0 : C.2.1.stackTraces = false) (hC : CO G C "SaturdayKeepLaw" cL_law_ 7 62 kc ks (some .boolean)) (hC1 : CO G C "SaturdayKeepLaw" cL_law_ 7 62 (kc + 1) (ks + 6) (some .boolean)) (hX : SC G C b n xs) (hK : ∀ i μ, AW G C Q (kc + 1) (ks + 6) 7 μ 2965 [some (.ref b), some (.ref (gad G 0 0)), some (.ref (gad G 0 12)), some (.ref (gad G 0 22)), some (.int i), none, none] [] (K i μ)) (i : Int32) (μ : Mem) : AW G C Q kc ks 7 μ 623 [some (.ref b), some (.ref (gad G 0 0)), some (.ref (gad G 0 12)), some (.ref (gad G 0 22)), some (.int i), none, none] [] (lc_7 xs n K i μ) := by
  have hK0 := fun i μ => aw_wide (Nat.le_succ kc) (Nat.le_add_right ks 6) (hK i μ)
  delta lc_7
  refine aw_aload_n (pc := 623) (i := 1) hC dL_law__623 rfl rfl ?_
  refine aw_aload_n (pc := 624) (i := 0) hC dL_law__624 rfl rfl ?_
  refine aw_iload (pc := 625) hC dL_law__625 rfl ?_
  refine aw_iconst (pc := 627) (v := 1) hC dL_law__627 ic1 ?_
  refine aw_iadd (pc := 628) hC dL_law__628 ?_
  refine aw_sld (pc := 629) hC hX dL_law__629 ?_
  refine aw_aload_n (pc := 630) (i := 0) hC dL_law__630 rfl rfl ?_
  refine aw_iload (pc := 631) hC dL_law__631 rfl ?_
  refine aw_iconst (pc := 633) (v := 2) hC dL_law__633 ic2 ?_
  refine aw_iadd (pc := 634) hC dL_law__634 ?_
  refine aw_sld (pc := 635) hC hX dL_law__635 ?_
  refine aw_nmJ (fun (J644 : Int32 → Option Unit) => ∀ (x1 : Int32), AW G C Q kc ks 7 μ 644 [some (.ref b), some (.ref (gad G 0 0)), some (.ref (gad G 0 12)), some (.ref (gad G 0 22)), some (.int i), none, none] [.int x1, .int (xs (i + 1).toNatClampNeg), .ref (gad G 0 0)] (J644 x1)) (fun x1 => ?_) (fun J644 hJ644 => ?_)
  · skip
    refine aw_aload_n (pc := 644) (i := 3) hC dL_law__644 rfl rfl ?_
    refine aw_callSH (pc := 645) (As := [.ref (gad G 0 0), .int (xs (i + 1).toNatClampNeg), .int x1, .ref (gad G 0 22)]) hC hC1 mw_L_calendar kw952 (by decide) (c_L_calendar G C.2.1 hl0 μ (xs (i + 1).toNatClampNeg) x1) rfl (Nat.le_of_ble_eq_true rfl) dL_law__645 (fun q2 => ?_)
    refine aw_istore (pc := 648) hC1 dL_law__648 rfl (by decide) ?_
    refine aw_aload_n (pc := 650) (i := 2) hC1 dL_law__650 rfl rfl ?_
    refine aw_aload_n (pc := 651) (i := 0) hC1 dL_law__651 rfl rfl ?_
    refine aw_iload (pc := 652) hC1 dL_law__652 rfl ?_
    refine aw_iconst (pc := 654) (v := 1) hC1 dL_law__654 ic1 ?_
    refine aw_iadd (pc := 655) hC1 dL_law__655 ?_
    refine aw_sld (pc := 656) hC1 hX dL_law__656 ?_
    refine aw_aload_n (pc := 657) (i := 0) hC1 dL_law__657 rfl rfl ?_
    refine aw_iload (pc := 658) hC1 dL_law__658 rfl ?_
    refine aw_iconst (pc := 660) (v := 2) hC1 dL_law__660 ic2 ?_
    refine aw_iadd (pc := 661) hC1 dL_law__661 ?_
    refine aw_sld (pc := 662) hC1 hX dL_law__662 ?_
    refine aw_nmJ (fun (J671 : Int32 → Option Unit) => ∀ (x3 : Int32), AW G C Q (kc + 1) (ks + 6) 7 q2.2 671 [some (.ref b), some (.ref (gad G 0 0)), some (.ref (gad G 0 12)), some (.ref (gad G 0 22)), some (.int i), some (.int q2.1), none] [.int x3, .int (xs (i + 1).toNatClampNeg), .ref (gad G 0 12)] (J671 x3)) (fun x3 => ?_) (fun J671 hJ671 => ?_)
    · skip
      refine aw_callVI (pc := 671) (As := [.int (xs (i + 1).toNatClampNeg), .int x3]) hC1 mb_X10_calendar kw1600 (by decide) (c_X10_calendar G C.2.1   q2.2 (xs (i + 1).toNatClampNeg) x3) (v0 (j := 12) (by decide)) rfl rfl rfl (Nat.le_of_ble_eq_true rfl) dL_law__671 (fun q4 => ?_)
      refine aw_istore (pc := 674) hC1 dL_law__674 rfl (by decide) ?_
      refine aw_aload_n (pc := 676) (i := 2) hC1 dL_law__676 rfl rfl ?_
      refine aw_callVR (pc := 677) (As := []) hC1 mb_X10_thrown kw1382 (by decide) (c_X10_thrown G C.2.1   q4.2 ) (v0 (j := 12) (by decide)) rfl rfl rfl (Nat.le_of_ble_eq_true rfl) dL_law__677 (fun q5 => ?_)
      refine aw_iload (pc := 680) hC1 dL_law__680 rfl ?_
      refine aw_icmp_eq (pc := 682) (tgt := 687) hC1 dL_law__682 (by decide) (fun _ => ?_) (fun _ => ?_)
      · skip
        refine aw_iload (pc := 687) hC1 dL_law__687 rfl ?_
        refine aw_if_ne (pc := 689) (tgt := 704) hC1 dL_law__689 (by decide) (fun _ => ?_) (fun _ => ?_)
        · skip
          refine aw_aload_n (pc := 692) (i := 3) hC1 dL_law__692 rfl rfl ?_
          refine aw_iconst (pc := 693) (v := 0) hC1 dL_law__693 ic0 ?_
          refine aw_laload (pc := 694) hC1 dL_law__694 ?_
          refine aw_iload (pc := 695) hC1 dL_law__695 rfl ?_
          refine aw_i2l (pc := 697) hC1 dL_law__697 ?_
          refine aw_lcmp (pc := 698) hC1 dL_law__698 ?_
          refine aw_if_eq (pc := 699) (tgt := 704) hC1 dL_law__699 (by decide) (fun _ => ?_) (fun _ => ?_)
          · skip
            refine aw_goto (pc := 704) (tgt := 2965) hC1 dL_law__704 (by decide) ?_
            exact aw_drop [5, 6] (hK i q4.2)
          · skip
            exact aw_none
        · skip
          refine aw_goto (pc := 704) (tgt := 2965) hC1 dL_law__704 (by decide) ?_
          exact aw_drop [5, 6] (hK i q4.2)
      · skip
        exact aw_none
    · skip
      refine aw_if_eq (pc := 663) (tgt := 670) hC1 dL_law__663 (by decide) (fun _ => ?_) (fun _ => ?_)
      · skip
        refine aw_iconst (pc := 670) (v := 0) hC1 dL_law__670 ic0 ?_
        exact hJ671 0
      · skip
        refine aw_iconst (pc := 666) (v := 1) hC1 dL_law__666 ic1 ?_
        refine aw_goto (pc := 667) (tgt := 671) hC1 dL_law__667 (by decide) ?_
        exact hJ671 1
  · skip
    refine aw_if_eq (pc := 636) (tgt := 643) hC dL_law__636 (by decide) (fun _ => ?_) (fun _ => ?_)
    · skip
      refine aw_iconst (pc := 643) (v := 0) hC dL_law__643 ic0 ?_
      exact hJ644 0
    · skip
      refine aw_iconst (pc := 639) (v := 1) hC dL_law__639 ic1 ?_
      refine aw_goto (pc := 640) (tgt := 644) hC dL_law__640 (by decide) ?_
      exact hJ644 1
theorem dL_law__707 : decode cL_law_ 707 = .ok (.aload_n 1, 1) := by decide +kernel
theorem dL_law__708 : decode cL_law_ 708 = .ok (.aload_n 0, 1) := by decide +kernel
theorem dL_law__709 : decode cL_law_ 709 = .ok (.iload 4, 2) := by decide +kernel
theorem dL_law__711 : decode cL_law_ 711 = .ok (.iconst 1, 1) := by decide +kernel
theorem dL_law__712 : decode cL_law_ 712 = .ok (.iadd, 1) := by decide +kernel
theorem dL_law__713 : decode cL_law_ 713 = .ok (.iaload, 1) := by decide +kernel
theorem dL_law__714 : decode cL_law_ 714 = .ok (.aload_n 0, 1) := by decide +kernel
theorem dL_law__715 : decode cL_law_ 715 = .ok (.iload 4, 2) := by decide +kernel
theorem dL_law__717 : decode cL_law_ 717 = .ok (.iconst 2, 1) := by decide +kernel
theorem dL_law__718 : decode cL_law_ 718 = .ok (.iadd, 1) := by decide +kernel
theorem dL_law__719 : decode cL_law_ 719 = .ok (.iaload, 1) := by decide +kernel
theorem dL_law__720 : decode cL_law_ 720 = .ok (.aload_n 3, 1) := by decide +kernel
theorem dL_law__721 : decode cL_law_ 721 = .ok (.invokestatic 172, 3) := by decide +kernel
theorem dL_law__724 : decode cL_law_ 724 = .ok (.istore 5, 2) := by decide +kernel
theorem dL_law__726 : decode cL_law_ 726 = .ok (.aload_n 2, 1) := by decide +kernel
theorem dL_law__727 : decode cL_law_ 727 = .ok (.aload_n 0, 1) := by decide +kernel
theorem dL_law__728 : decode cL_law_ 728 = .ok (.iload 4, 2) := by decide +kernel
theorem dL_law__730 : decode cL_law_ 730 = .ok (.iconst 1, 1) := by decide +kernel
theorem dL_law__731 : decode cL_law_ 731 = .ok (.iadd, 1) := by decide +kernel
theorem dL_law__732 : decode cL_law_ 732 = .ok (.iaload, 1) := by decide +kernel
theorem dL_law__733 : decode cL_law_ 733 = .ok (.aload_n 0, 1) := by decide +kernel
theorem dL_law__734 : decode cL_law_ 734 = .ok (.iload 4, 2) := by decide +kernel
theorem dL_law__736 : decode cL_law_ 736 = .ok (.iconst 2, 1) := by decide +kernel
theorem dL_law__737 : decode cL_law_ 737 = .ok (.iadd, 1) := by decide +kernel
theorem dL_law__738 : decode cL_law_ 738 = .ok (.iaload, 1) := by decide +kernel
theorem dL_law__739 : decode cL_law_ 739 = .ok (.invokevirtual 174, 3) := by decide +kernel
theorem dL_law__742 : decode cL_law_ 742 = .ok (.istore 6, 2) := by decide +kernel
theorem dL_law__744 : decode cL_law_ 744 = .ok (.aload_n 2, 1) := by decide +kernel
theorem dL_law__745 : decode cL_law_ 745 = .ok (.invokevirtual 151, 3) := by decide +kernel
theorem dL_law__748 : decode cL_law_ 748 = .ok (.iload 5, 2) := by decide +kernel
theorem dL_law__750 : decode cL_law_ 750 = .ok (.if_icmp .eq 5, 3) := by decide +kernel
theorem dL_law__755 : decode cL_law_ 755 = .ok (.iload 5, 2) := by decide +kernel
theorem dL_law__757 : decode cL_law_ 757 = .ok (.ifCond .ne 22, 3) := by decide +kernel
theorem dL_law__760 : decode cL_law_ 760 = .ok (.aload_n 3, 1) := by decide +kernel
theorem dL_law__761 : decode cL_law_ 761 = .ok (.iconst 0, 1) := by decide +kernel
theorem dL_law__762 : decode cL_law_ 762 = .ok (.laload, 1) := by decide +kernel
theorem dL_law__763 : decode cL_law_ 763 = .ok (.iload 6, 2) := by decide +kernel
theorem dL_law__765 : decode cL_law_ 765 = .ok (.ifCond .eq 7, 3) := by decide +kernel
theorem dL_law__768 : decode cL_law_ 768 = .ok (.lconst 1, 1) := by decide +kernel
theorem dL_law__769 : decode cL_law_ 769 = .ok (.goto 4, 3) := by decide +kernel
theorem dL_law__772 : decode cL_law_ 772 = .ok (.lconst 0, 1) := by decide +kernel
theorem dL_law__773 : decode cL_law_ 773 = .ok (.lcmp, 1) := by decide +kernel
theorem dL_law__774 : decode cL_law_ 774 = .ok (.ifCond .eq 5, 3) := by decide +kernel
theorem dL_law__779 : decode cL_law_ 779 = .ok (.goto 2186, 3) := by decide +kernel
def lc_8 (xs : Nat → Int32) (n : Nat) (K : Int32 → Mem → Option Unit) (i : Int32) (μ : Mem) : Option Unit := ix (i + 1) n (ix (i + 2) n ((f_L_saturday μ (xs (i + 1).toNatClampNeg) (xs (i + 2).toNatClampNeg)).bind fun (q1 : Int32 × Mem) => ix (i + 1) n (ix (i + 2) n ((f_X10_saturday q1.2 (xs (i + 1).toNatClampNeg) (xs (i + 2).toNatClampNeg)).bind fun (q2 : Int32 × Mem) => (f_X10_thrown q2.2).bind fun (q3 : Int32) => if q3 = q1.1 then (if q1.1 = 0 then (ix 0 1 (nm (fun (x4 : Int64) => if (lg_cmp ((q2.2 0 22 (Int32.toNatClampNeg 0)).toInt64) x4) = 0 then (K i q2.2) else (none)) fun (J773 : Int64 → Option Unit) => if q2.1 = 0 then (J773 0) else (J773 1))) else (K i q2.2)) else (none)))))
set_option maxHeartbeats 4000000 in
set_option maxRecDepth 100000 in
theorem hlc_8 {G : GG} {C : CX} {Q : Unit → State → Prop} {kc ks b n : Nat} {xs : Nat → Int32} {K : Int32 → Mem → Option Unit} (hl0 : C.2.1.stackTraces = false) (hC : CO G C "SaturdayKeepLaw" cL_law_ 7 62 kc ks (some .boolean)) (hC1 : CO G C "SaturdayKeepLaw" cL_law_ 7 62 (kc + 1) (ks + 6) (some .boolean)) (hX : SC G C b n xs) (hK : ∀ i μ, AW G C Q (kc + 1) (ks + 6) 7 μ 2965 [some (.ref b), some (.ref (gad G 0 0)), some (.ref (gad G 0 12)), some (.ref (gad G 0 22)), some (.int i), none, none] [] (K i μ)) (i : Int32) (μ : Mem) : AW G C Q kc ks 7 μ 707 [some (.ref b), some (.ref (gad G 0 0)), some (.ref (gad G 0 12)), some (.ref (gad G 0 22)), some (.int i), none, none] [] (lc_8 xs n K i μ) := by
  have hK0 := fun i μ => aw_wide (Nat.le_succ kc) (Nat.le_add_right ks 6) (hK i μ)
  delta lc_8
  refine aw_aload_n (pc := 707) (i := 1) hC dL_law__707 rfl rfl ?_
  refine aw_aload_n (pc := 708) (i := 0) hC dL_law__708 rfl rfl ?_
  refine aw_iload (pc := 709) hC dL_law__709 rfl ?_
  refine aw_iconst (pc := 711) (v := 1) hC dL_law__711 ic1 ?_
  refine aw_iadd (pc := 712) hC dL_law__712 ?_
  refine aw_sld (pc := 713) hC hX dL_law__713 ?_
  refine aw_aload_n (pc := 714) (i := 0) hC dL_law__714 rfl rfl ?_
  refine aw_iload (pc := 715) hC dL_law__715 rfl ?_
  refine aw_iconst (pc := 717) (v := 2) hC dL_law__717 ic2 ?_
  refine aw_iadd (pc := 718) hC dL_law__718 ?_
  refine aw_sld (pc := 719) hC hX dL_law__719 ?_
  refine aw_aload_n (pc := 720) (i := 3) hC dL_law__720 rfl rfl ?_
  refine aw_callSH (pc := 721) (As := [.ref (gad G 0 0), .int (xs (i + 1).toNatClampNeg), .int (xs (i + 2).toNatClampNeg), .ref (gad G 0 22)]) hC hC1 mw_L_saturday kw968 (by decide) (c_L_saturday G C.2.1 hl0 μ (xs (i + 1).toNatClampNeg) (xs (i + 2).toNatClampNeg)) rfl (Nat.le_of_ble_eq_true rfl) dL_law__721 (fun q1 => ?_)
  refine aw_istore (pc := 724) hC1 dL_law__724 rfl (by decide) ?_
  refine aw_aload_n (pc := 726) (i := 2) hC1 dL_law__726 rfl rfl ?_
  refine aw_aload_n (pc := 727) (i := 0) hC1 dL_law__727 rfl rfl ?_
  refine aw_iload (pc := 728) hC1 dL_law__728 rfl ?_
  refine aw_iconst (pc := 730) (v := 1) hC1 dL_law__730 ic1 ?_
  refine aw_iadd (pc := 731) hC1 dL_law__731 ?_
  refine aw_sld (pc := 732) hC1 hX dL_law__732 ?_
  refine aw_aload_n (pc := 733) (i := 0) hC1 dL_law__733 rfl rfl ?_
  refine aw_iload (pc := 734) hC1 dL_law__734 rfl ?_
  refine aw_iconst (pc := 736) (v := 2) hC1 dL_law__736 ic2 ?_
  refine aw_iadd (pc := 737) hC1 dL_law__737 ?_
  refine aw_sld (pc := 738) hC1 hX dL_law__738 ?_
  refine aw_callVI (pc := 739) (As := [.int (xs (i + 1).toNatClampNeg), .int (xs (i + 2).toNatClampNeg)]) hC1 mb_X10_saturday kw1604 (by decide) (c_X10_saturday G C.2.1   q1.2 (xs (i + 1).toNatClampNeg) (xs (i + 2).toNatClampNeg)) (v0 (j := 12) (by decide)) rfl rfl rfl (Nat.le_of_ble_eq_true rfl) dL_law__739 (fun q2 => ?_)
  refine aw_istore (pc := 742) hC1 dL_law__742 rfl (by decide) ?_
  refine aw_aload_n (pc := 744) (i := 2) hC1 dL_law__744 rfl rfl ?_
  refine aw_callVR (pc := 745) (As := []) hC1 mb_X10_thrown kw1382 (by decide) (c_X10_thrown G C.2.1   q2.2 ) (v0 (j := 12) (by decide)) rfl rfl rfl (Nat.le_of_ble_eq_true rfl) dL_law__745 (fun q3 => ?_)
  refine aw_iload (pc := 748) hC1 dL_law__748 rfl ?_
  refine aw_icmp_eq (pc := 750) (tgt := 755) hC1 dL_law__750 (by decide) (fun _ => ?_) (fun _ => ?_)
  · skip
    refine aw_iload (pc := 755) hC1 dL_law__755 rfl ?_
    refine aw_if_ne (pc := 757) (tgt := 779) hC1 dL_law__757 (by decide) (fun _ => ?_) (fun _ => ?_)
    · skip
      refine aw_aload_n (pc := 760) (i := 3) hC1 dL_law__760 rfl rfl ?_
      refine aw_iconst (pc := 761) (v := 0) hC1 dL_law__761 ic0 ?_
      refine aw_laload (pc := 762) hC1 dL_law__762 ?_
      refine aw_iload (pc := 763) hC1 dL_law__763 rfl ?_
      refine aw_nmJ (fun (J773 : Int64 → Option Unit) => ∀ (x4 : Int64), AW G C Q (kc + 1) (ks + 6) 7 q2.2 773 [some (.ref b), some (.ref (gad G 0 0)), some (.ref (gad G 0 12)), some (.ref (gad G 0 22)), some (.int i), none, none] [.long x4, .long ((q2.2 0 22 (Int32.toNatClampNeg 0)).toInt64)] (J773 x4)) (fun x4 => ?_) (fun J773 hJ773 => ?_)
      · skip
        refine aw_lcmp (pc := 773) hC1 dL_law__773 ?_
        refine aw_if_eq (pc := 774) (tgt := 779) hC1 dL_law__774 (by decide) (fun _ => ?_) (fun _ => ?_)
        · skip
          refine aw_goto (pc := 779) (tgt := 2965) hC1 dL_law__779 (by decide) ?_
          exact hK i q2.2
        · skip
          exact aw_none
      · skip
        refine aw_if_eq (pc := 765) (tgt := 772) hC1 dL_law__765 (by decide) (fun _ => ?_) (fun _ => ?_)
        · skip
          refine aw_lconst (pc := 772) (v := 0) hC1 dL_law__772 lc0 ?_
          exact aw_drop [5, 6] (hJ773 0)
        · skip
          refine aw_lconst (pc := 768) (v := 1) hC1 dL_law__768 lc1 ?_
          refine aw_goto (pc := 769) (tgt := 773) hC1 dL_law__769 (by decide) ?_
          exact aw_drop [5, 6] (hJ773 1)
    · skip
      refine aw_goto (pc := 779) (tgt := 2965) hC1 dL_law__779 (by decide) ?_
      exact aw_drop [5, 6] (hK i q2.2)
  · skip
    exact aw_none
theorem dL_law__782 : decode cL_law_ 782 = .ok (.aload_n 1, 1) := by decide +kernel
theorem dL_law__783 : decode cL_law_ 783 = .ok (.aload_n 0, 1) := by decide +kernel
theorem dL_law__784 : decode cL_law_ 784 = .ok (.iload 4, 2) := by decide +kernel
theorem dL_law__786 : decode cL_law_ 786 = .ok (.iconst 1, 1) := by decide +kernel
theorem dL_law__787 : decode cL_law_ 787 = .ok (.iadd, 1) := by decide +kernel
theorem dL_law__788 : decode cL_law_ 788 = .ok (.iaload, 1) := by decide +kernel
theorem dL_law__789 : decode cL_law_ 789 = .ok (.aload_n 0, 1) := by decide +kernel
theorem dL_law__790 : decode cL_law_ 790 = .ok (.iload 4, 2) := by decide +kernel
theorem dL_law__792 : decode cL_law_ 792 = .ok (.iconst 2, 1) := by decide +kernel
theorem dL_law__793 : decode cL_law_ 793 = .ok (.iadd, 1) := by decide +kernel
theorem dL_law__794 : decode cL_law_ 794 = .ok (.iaload, 1) := by decide +kernel
theorem dL_law__795 : decode cL_law_ 795 = .ok (.aload_n 3, 1) := by decide +kernel
theorem dL_law__796 : decode cL_law_ 796 = .ok (.invokestatic 175, 3) := by decide +kernel
theorem dL_law__799 : decode cL_law_ 799 = .ok (.istore 5, 2) := by decide +kernel
theorem dL_law__801 : decode cL_law_ 801 = .ok (.aload_n 2, 1) := by decide +kernel
theorem dL_law__802 : decode cL_law_ 802 = .ok (.aload_n 0, 1) := by decide +kernel
theorem dL_law__803 : decode cL_law_ 803 = .ok (.iload 4, 2) := by decide +kernel
theorem dL_law__805 : decode cL_law_ 805 = .ok (.iconst 1, 1) := by decide +kernel
theorem dL_law__806 : decode cL_law_ 806 = .ok (.iadd, 1) := by decide +kernel
theorem dL_law__807 : decode cL_law_ 807 = .ok (.iaload, 1) := by decide +kernel
theorem dL_law__808 : decode cL_law_ 808 = .ok (.aload_n 0, 1) := by decide +kernel
theorem dL_law__809 : decode cL_law_ 809 = .ok (.iload 4, 2) := by decide +kernel
theorem dL_law__811 : decode cL_law_ 811 = .ok (.iconst 2, 1) := by decide +kernel
theorem dL_law__812 : decode cL_law_ 812 = .ok (.iadd, 1) := by decide +kernel
theorem dL_law__813 : decode cL_law_ 813 = .ok (.iaload, 1) := by decide +kernel
theorem dL_law__814 : decode cL_law_ 814 = .ok (.invokevirtual 177, 3) := by decide +kernel
theorem dL_law__817 : decode cL_law_ 817 = .ok (.istore 6, 2) := by decide +kernel
theorem dL_law__819 : decode cL_law_ 819 = .ok (.aload_n 2, 1) := by decide +kernel
theorem dL_law__820 : decode cL_law_ 820 = .ok (.invokevirtual 151, 3) := by decide +kernel
theorem dL_law__823 : decode cL_law_ 823 = .ok (.iload 5, 2) := by decide +kernel
theorem dL_law__825 : decode cL_law_ 825 = .ok (.if_icmp .eq 5, 3) := by decide +kernel
theorem dL_law__830 : decode cL_law_ 830 = .ok (.iload 5, 2) := by decide +kernel
theorem dL_law__832 : decode cL_law_ 832 = .ok (.ifCond .ne 15, 3) := by decide +kernel
theorem dL_law__835 : decode cL_law_ 835 = .ok (.aload_n 3, 1) := by decide +kernel
theorem dL_law__836 : decode cL_law_ 836 = .ok (.iconst 0, 1) := by decide +kernel
theorem dL_law__837 : decode cL_law_ 837 = .ok (.laload, 1) := by decide +kernel
theorem dL_law__838 : decode cL_law_ 838 = .ok (.iload 6, 2) := by decide +kernel
theorem dL_law__840 : decode cL_law_ 840 = .ok (.i2l, 1) := by decide +kernel
theorem dL_law__841 : decode cL_law_ 841 = .ok (.lcmp, 1) := by decide +kernel
theorem dL_law__842 : decode cL_law_ 842 = .ok (.ifCond .eq 5, 3) := by decide +kernel
theorem dL_law__847 : decode cL_law_ 847 = .ok (.goto 2118, 3) := by decide +kernel
def lc_9 (xs : Nat → Int32) (n : Nat) (K : Int32 → Mem → Option Unit) (i : Int32) (μ : Mem) : Option Unit := ix (i + 1) n (ix (i + 2) n ((f_L_go μ (xs (i + 1).toNatClampNeg) (xs (i + 2).toNatClampNeg)).bind fun (q1 : Int32 × Mem) => ix (i + 1) n (ix (i + 2) n ((f_X10_go q1.2 (xs (i + 1).toNatClampNeg) (xs (i + 2).toNatClampNeg)).bind fun (q2 : Int32 × Mem) => (f_X10_thrown q2.2).bind fun (q3 : Int32) => if q3 = q1.1 then (if q1.1 = 0 then (ix 0 1 (if (lg_cmp ((q2.2 0 22 (Int32.toNatClampNeg 0)).toInt64) q2.1.toInt64) = 0 then (K i q2.2) else (none))) else (K i q2.2)) else (none)))))
set_option maxHeartbeats 4000000 in
set_option maxRecDepth 100000 in
theorem hlc_9 {G : GG} {C : CX} {Q : Unit → State → Prop} {kc ks b n : Nat} {xs : Nat → Int32} {K : Int32 → Mem → Option Unit} (hl0 : C.2.1.stackTraces = false) (hC : CO G C "SaturdayKeepLaw" cL_law_ 7 62 kc ks (some .boolean)) (hC1 : CO G C "SaturdayKeepLaw" cL_law_ 7 62 (kc + 1) (ks + 6) (some .boolean)) (hX : SC G C b n xs) (hK : ∀ i μ, AW G C Q (kc + 1) (ks + 6) 7 μ 2965 [some (.ref b), some (.ref (gad G 0 0)), some (.ref (gad G 0 12)), some (.ref (gad G 0 22)), some (.int i), none, none] [] (K i μ)) (i : Int32) (μ : Mem) : AW G C Q kc ks 7 μ 782 [some (.ref b), some (.ref (gad G 0 0)), some (.ref (gad G 0 12)), some (.ref (gad G 0 22)), some (.int i), none, none] [] (lc_9 xs n K i μ) := by
  have hK0 := fun i μ => aw_wide (Nat.le_succ kc) (Nat.le_add_right ks 6) (hK i μ)
  delta lc_9
  refine aw_aload_n (pc := 782) (i := 1) hC dL_law__782 rfl rfl ?_
  refine aw_aload_n (pc := 783) (i := 0) hC dL_law__783 rfl rfl ?_
  refine aw_iload (pc := 784) hC dL_law__784 rfl ?_
  refine aw_iconst (pc := 786) (v := 1) hC dL_law__786 ic1 ?_
  refine aw_iadd (pc := 787) hC dL_law__787 ?_
  refine aw_sld (pc := 788) hC hX dL_law__788 ?_
  refine aw_aload_n (pc := 789) (i := 0) hC dL_law__789 rfl rfl ?_
  refine aw_iload (pc := 790) hC dL_law__790 rfl ?_
  refine aw_iconst (pc := 792) (v := 2) hC dL_law__792 ic2 ?_
  refine aw_iadd (pc := 793) hC dL_law__793 ?_
  refine aw_sld (pc := 794) hC hX dL_law__794 ?_
  refine aw_aload_n (pc := 795) (i := 3) hC dL_law__795 rfl rfl ?_
  refine aw_callSH (pc := 796) (As := [.ref (gad G 0 0), .int (xs (i + 1).toNatClampNeg), .int (xs (i + 2).toNatClampNeg), .ref (gad G 0 22)]) hC hC1 mw_L_go kw977 (by decide) (c_L_go G C.2.1 hl0 μ (xs (i + 1).toNatClampNeg) (xs (i + 2).toNatClampNeg)) rfl (Nat.le_of_ble_eq_true rfl) dL_law__796 (fun q1 => ?_)
  refine aw_istore (pc := 799) hC1 dL_law__799 rfl (by decide) ?_
  refine aw_aload_n (pc := 801) (i := 2) hC1 dL_law__801 rfl rfl ?_
  refine aw_aload_n (pc := 802) (i := 0) hC1 dL_law__802 rfl rfl ?_
  refine aw_iload (pc := 803) hC1 dL_law__803 rfl ?_
  refine aw_iconst (pc := 805) (v := 1) hC1 dL_law__805 ic1 ?_
  refine aw_iadd (pc := 806) hC1 dL_law__806 ?_
  refine aw_sld (pc := 807) hC1 hX dL_law__807 ?_
  refine aw_aload_n (pc := 808) (i := 0) hC1 dL_law__808 rfl rfl ?_
  refine aw_iload (pc := 809) hC1 dL_law__809 rfl ?_
  refine aw_iconst (pc := 811) (v := 2) hC1 dL_law__811 ic2 ?_
  refine aw_iadd (pc := 812) hC1 dL_law__812 ?_
  refine aw_sld (pc := 813) hC1 hX dL_law__813 ?_
  refine aw_callVI (pc := 814) (As := [.int (xs (i + 1).toNatClampNeg), .int (xs (i + 2).toNatClampNeg)]) hC1 mb_X10_go kw1608 (by decide) (c_X10_go G C.2.1   q1.2 (xs (i + 1).toNatClampNeg) (xs (i + 2).toNatClampNeg)) (v0 (j := 12) (by decide)) rfl rfl rfl (Nat.le_of_ble_eq_true rfl) dL_law__814 (fun q2 => ?_)
  refine aw_istore (pc := 817) hC1 dL_law__817 rfl (by decide) ?_
  refine aw_aload_n (pc := 819) (i := 2) hC1 dL_law__819 rfl rfl ?_
  refine aw_callVR (pc := 820) (As := []) hC1 mb_X10_thrown kw1382 (by decide) (c_X10_thrown G C.2.1   q2.2 ) (v0 (j := 12) (by decide)) rfl rfl rfl (Nat.le_of_ble_eq_true rfl) dL_law__820 (fun q3 => ?_)
  refine aw_iload (pc := 823) hC1 dL_law__823 rfl ?_
  refine aw_icmp_eq (pc := 825) (tgt := 830) hC1 dL_law__825 (by decide) (fun _ => ?_) (fun _ => ?_)
  · skip
    refine aw_iload (pc := 830) hC1 dL_law__830 rfl ?_
    refine aw_if_ne (pc := 832) (tgt := 847) hC1 dL_law__832 (by decide) (fun _ => ?_) (fun _ => ?_)
    · skip
      refine aw_aload_n (pc := 835) (i := 3) hC1 dL_law__835 rfl rfl ?_
      refine aw_iconst (pc := 836) (v := 0) hC1 dL_law__836 ic0 ?_
      refine aw_laload (pc := 837) hC1 dL_law__837 ?_
      refine aw_iload (pc := 838) hC1 dL_law__838 rfl ?_
      refine aw_i2l (pc := 840) hC1 dL_law__840 ?_
      refine aw_lcmp (pc := 841) hC1 dL_law__841 ?_
      refine aw_if_eq (pc := 842) (tgt := 847) hC1 dL_law__842 (by decide) (fun _ => ?_) (fun _ => ?_)
      · skip
        refine aw_goto (pc := 847) (tgt := 2965) hC1 dL_law__847 (by decide) ?_
        exact aw_drop [5, 6] (hK i q2.2)
      · skip
        exact aw_none
    · skip
      refine aw_goto (pc := 847) (tgt := 2965) hC1 dL_law__847 (by decide) ?_
      exact aw_drop [5, 6] (hK i q2.2)
  · skip
    exact aw_none
theorem dL_law__850 : decode cL_law_ 850 = .ok (.aload_n 1, 1) := by decide +kernel
theorem dL_law__851 : decode cL_law_ 851 = .ok (.aload_n 0, 1) := by decide +kernel
theorem dL_law__852 : decode cL_law_ 852 = .ok (.iload 4, 2) := by decide +kernel
theorem dL_law__854 : decode cL_law_ 854 = .ok (.iconst 1, 1) := by decide +kernel
theorem dL_law__855 : decode cL_law_ 855 = .ok (.iadd, 1) := by decide +kernel
theorem dL_law__856 : decode cL_law_ 856 = .ok (.iaload, 1) := by decide +kernel
theorem dL_law__857 : decode cL_law_ 857 = .ok (.aload_n 0, 1) := by decide +kernel
theorem dL_law__858 : decode cL_law_ 858 = .ok (.iload 4, 2) := by decide +kernel
theorem dL_law__860 : decode cL_law_ 860 = .ok (.iconst 2, 1) := by decide +kernel
theorem dL_law__861 : decode cL_law_ 861 = .ok (.iadd, 1) := by decide +kernel
theorem dL_law__862 : decode cL_law_ 862 = .ok (.iaload, 1) := by decide +kernel
theorem dL_law__863 : decode cL_law_ 863 = .ok (.ifCond .eq 7, 3) := by decide +kernel
theorem dL_law__866 : decode cL_law_ 866 = .ok (.iconst 1, 1) := by decide +kernel
theorem dL_law__867 : decode cL_law_ 867 = .ok (.goto 4, 3) := by decide +kernel
theorem dL_law__870 : decode cL_law_ 870 = .ok (.iconst 0, 1) := by decide +kernel
theorem dL_law__871 : decode cL_law_ 871 = .ok (.aload_n 3, 1) := by decide +kernel
theorem dL_law__872 : decode cL_law_ 872 = .ok (.invokestatic 178, 3) := by decide +kernel
theorem dL_law__875 : decode cL_law_ 875 = .ok (.istore 5, 2) := by decide +kernel
theorem dL_law__877 : decode cL_law_ 877 = .ok (.aload_n 2, 1) := by decide +kernel
theorem dL_law__878 : decode cL_law_ 878 = .ok (.aload_n 0, 1) := by decide +kernel
theorem dL_law__879 : decode cL_law_ 879 = .ok (.iload 4, 2) := by decide +kernel
theorem dL_law__881 : decode cL_law_ 881 = .ok (.iconst 1, 1) := by decide +kernel
theorem dL_law__882 : decode cL_law_ 882 = .ok (.iadd, 1) := by decide +kernel
theorem dL_law__883 : decode cL_law_ 883 = .ok (.iaload, 1) := by decide +kernel
theorem dL_law__884 : decode cL_law_ 884 = .ok (.aload_n 0, 1) := by decide +kernel
theorem dL_law__885 : decode cL_law_ 885 = .ok (.iload 4, 2) := by decide +kernel
theorem dL_law__887 : decode cL_law_ 887 = .ok (.iconst 2, 1) := by decide +kernel
theorem dL_law__888 : decode cL_law_ 888 = .ok (.iadd, 1) := by decide +kernel
theorem dL_law__889 : decode cL_law_ 889 = .ok (.iaload, 1) := by decide +kernel
theorem dL_law__890 : decode cL_law_ 890 = .ok (.ifCond .eq 7, 3) := by decide +kernel
theorem dL_law__893 : decode cL_law_ 893 = .ok (.iconst 1, 1) := by decide +kernel
theorem dL_law__894 : decode cL_law_ 894 = .ok (.goto 4, 3) := by decide +kernel
theorem dL_law__897 : decode cL_law_ 897 = .ok (.iconst 0, 1) := by decide +kernel
theorem dL_law__898 : decode cL_law_ 898 = .ok (.invokevirtual 180, 3) := by decide +kernel
theorem dL_law__901 : decode cL_law_ 901 = .ok (.istore 6, 2) := by decide +kernel
theorem dL_law__903 : decode cL_law_ 903 = .ok (.aload_n 2, 1) := by decide +kernel
theorem dL_law__904 : decode cL_law_ 904 = .ok (.invokevirtual 151, 3) := by decide +kernel
theorem dL_law__907 : decode cL_law_ 907 = .ok (.iload 5, 2) := by decide +kernel
theorem dL_law__909 : decode cL_law_ 909 = .ok (.if_icmp .eq 5, 3) := by decide +kernel
theorem dL_law__914 : decode cL_law_ 914 = .ok (.iload 5, 2) := by decide +kernel
theorem dL_law__916 : decode cL_law_ 916 = .ok (.ifCond .ne 22, 3) := by decide +kernel
theorem dL_law__919 : decode cL_law_ 919 = .ok (.aload_n 3, 1) := by decide +kernel
theorem dL_law__920 : decode cL_law_ 920 = .ok (.iconst 0, 1) := by decide +kernel
theorem dL_law__921 : decode cL_law_ 921 = .ok (.laload, 1) := by decide +kernel
theorem dL_law__922 : decode cL_law_ 922 = .ok (.iload 6, 2) := by decide +kernel
theorem dL_law__924 : decode cL_law_ 924 = .ok (.ifCond .eq 7, 3) := by decide +kernel
theorem dL_law__927 : decode cL_law_ 927 = .ok (.lconst 1, 1) := by decide +kernel
theorem dL_law__928 : decode cL_law_ 928 = .ok (.goto 4, 3) := by decide +kernel
theorem dL_law__931 : decode cL_law_ 931 = .ok (.lconst 0, 1) := by decide +kernel
theorem dL_law__932 : decode cL_law_ 932 = .ok (.lcmp, 1) := by decide +kernel
theorem dL_law__933 : decode cL_law_ 933 = .ok (.ifCond .eq 5, 3) := by decide +kernel
theorem dL_law__938 : decode cL_law_ 938 = .ok (.goto 2027, 3) := by decide +kernel
def lc_10 (xs : Nat → Int32) (n : Nat) (K : Int32 → Mem → Option Unit) (i : Int32) (μ : Mem) : Option Unit := ix (i + 1) n (ix (i + 2) n (nm (fun (x1 : Int32) => (f_L_come μ (xs (i + 1).toNatClampNeg) x1).bind fun (q2 : Int32 × Mem) => ix (i + 1) n (ix (i + 2) n (nm (fun (x3 : Int32) => (f_X10_come q2.2 (xs (i + 1).toNatClampNeg) x3).bind fun (q4 : Int32 × Mem) => (f_X10_thrown q4.2).bind fun (q5 : Int32) => if q5 = q2.1 then (if q2.1 = 0 then (ix 0 1 (nm (fun (x6 : Int64) => if (lg_cmp ((q4.2 0 22 (Int32.toNatClampNeg 0)).toInt64) x6) = 0 then (K i q4.2) else (none)) fun (J932 : Int64 → Option Unit) => if q4.1 = 0 then (J932 0) else (J932 1))) else (K i q4.2)) else (none)) fun (J898 : Int32 → Option Unit) => if (xs (i + 2).toNatClampNeg) = 0 then (J898 0) else (J898 1)))) fun (J871 : Int32 → Option Unit) => if (xs (i + 2).toNatClampNeg) = 0 then (J871 0) else (J871 1)))
set_option maxHeartbeats 4000000 in
set_option maxRecDepth 100000 in
theorem hlc_10 {G : GG} {C : CX} {Q : Unit → State → Prop} {kc ks b n : Nat} {xs : Nat → Int32} {K : Int32 → Mem → Option Unit} (hl0 : C.2.1.stackTraces = false) (hC : CO G C "SaturdayKeepLaw" cL_law_ 7 62 kc ks (some .boolean)) (hC1 : CO G C "SaturdayKeepLaw" cL_law_ 7 62 (kc + 1) (ks + 6) (some .boolean)) (hX : SC G C b n xs) (hK : ∀ i μ, AW G C Q (kc + 1) (ks + 6) 7 μ 2965 [some (.ref b), some (.ref (gad G 0 0)), some (.ref (gad G 0 12)), some (.ref (gad G 0 22)), some (.int i), none, none] [] (K i μ)) (i : Int32) (μ : Mem) : AW G C Q kc ks 7 μ 850 [some (.ref b), some (.ref (gad G 0 0)), some (.ref (gad G 0 12)), some (.ref (gad G 0 22)), some (.int i), none, none] [] (lc_10 xs n K i μ) := by
  have hK0 := fun i μ => aw_wide (Nat.le_succ kc) (Nat.le_add_right ks 6) (hK i μ)
  delta lc_10
  refine aw_aload_n (pc := 850) (i := 1) hC dL_law__850 rfl rfl ?_
  refine aw_aload_n (pc := 851) (i := 0) hC dL_law__851 rfl rfl ?_
  refine aw_iload (pc := 852) hC dL_law__852 rfl ?_
  refine aw_iconst (pc := 854) (v := 1) hC dL_law__854 ic1 ?_
  refine aw_iadd (pc := 855) hC dL_law__855 ?_
  refine aw_sld (pc := 856) hC hX dL_law__856 ?_
  refine aw_aload_n (pc := 857) (i := 0) hC dL_law__857 rfl rfl ?_
  refine aw_iload (pc := 858) hC dL_law__858 rfl ?_
  refine aw_iconst (pc := 860) (v := 2) hC dL_law__860 ic2 ?_
  refine aw_iadd (pc := 861) hC dL_law__861 ?_
  refine aw_sld (pc := 862) hC hX dL_law__862 ?_
  refine aw_nmJ (fun (J871 : Int32 → Option Unit) => ∀ (x1 : Int32), AW G C Q kc ks 7 μ 871 [some (.ref b), some (.ref (gad G 0 0)), some (.ref (gad G 0 12)), some (.ref (gad G 0 22)), some (.int i), none, none] [.int x1, .int (xs (i + 1).toNatClampNeg), .ref (gad G 0 0)] (J871 x1)) (fun x1 => ?_) (fun J871 hJ871 => ?_)
  · skip
    refine aw_aload_n (pc := 871) (i := 3) hC dL_law__871 rfl rfl ?_
    refine aw_callSH (pc := 872) (As := [.ref (gad G 0 0), .int (xs (i + 1).toNatClampNeg), .int x1, .ref (gad G 0 22)]) hC hC1 mw_L_come kw994 (by decide) (c_L_come G C.2.1 hl0 μ (xs (i + 1).toNatClampNeg) x1) rfl (Nat.le_of_ble_eq_true rfl) dL_law__872 (fun q2 => ?_)
    refine aw_istore (pc := 875) hC1 dL_law__875 rfl (by decide) ?_
    refine aw_aload_n (pc := 877) (i := 2) hC1 dL_law__877 rfl rfl ?_
    refine aw_aload_n (pc := 878) (i := 0) hC1 dL_law__878 rfl rfl ?_
    refine aw_iload (pc := 879) hC1 dL_law__879 rfl ?_
    refine aw_iconst (pc := 881) (v := 1) hC1 dL_law__881 ic1 ?_
    refine aw_iadd (pc := 882) hC1 dL_law__882 ?_
    refine aw_sld (pc := 883) hC1 hX dL_law__883 ?_
    refine aw_aload_n (pc := 884) (i := 0) hC1 dL_law__884 rfl rfl ?_
    refine aw_iload (pc := 885) hC1 dL_law__885 rfl ?_
    refine aw_iconst (pc := 887) (v := 2) hC1 dL_law__887 ic2 ?_
    refine aw_iadd (pc := 888) hC1 dL_law__888 ?_
    refine aw_sld (pc := 889) hC1 hX dL_law__889 ?_
    refine aw_nmJ (fun (J898 : Int32 → Option Unit) => ∀ (x3 : Int32), AW G C Q (kc + 1) (ks + 6) 7 q2.2 898 [some (.ref b), some (.ref (gad G 0 0)), some (.ref (gad G 0 12)), some (.ref (gad G 0 22)), some (.int i), some (.int q2.1), none] [.int x3, .int (xs (i + 1).toNatClampNeg), .ref (gad G 0 12)] (J898 x3)) (fun x3 => ?_) (fun J898 hJ898 => ?_)
    · skip
      refine aw_callVI (pc := 898) (As := [.int (xs (i + 1).toNatClampNeg), .int x3]) hC1 mb_X10_come kw1620 (by decide) (c_X10_come G C.2.1   q2.2 (xs (i + 1).toNatClampNeg) x3) (v0 (j := 12) (by decide)) rfl rfl rfl (Nat.le_of_ble_eq_true rfl) dL_law__898 (fun q4 => ?_)
      refine aw_istore (pc := 901) hC1 dL_law__901 rfl (by decide) ?_
      refine aw_aload_n (pc := 903) (i := 2) hC1 dL_law__903 rfl rfl ?_
      refine aw_callVR (pc := 904) (As := []) hC1 mb_X10_thrown kw1382 (by decide) (c_X10_thrown G C.2.1   q4.2 ) (v0 (j := 12) (by decide)) rfl rfl rfl (Nat.le_of_ble_eq_true rfl) dL_law__904 (fun q5 => ?_)
      refine aw_iload (pc := 907) hC1 dL_law__907 rfl ?_
      refine aw_icmp_eq (pc := 909) (tgt := 914) hC1 dL_law__909 (by decide) (fun _ => ?_) (fun _ => ?_)
      · skip
        refine aw_iload (pc := 914) hC1 dL_law__914 rfl ?_
        refine aw_if_ne (pc := 916) (tgt := 938) hC1 dL_law__916 (by decide) (fun _ => ?_) (fun _ => ?_)
        · skip
          refine aw_aload_n (pc := 919) (i := 3) hC1 dL_law__919 rfl rfl ?_
          refine aw_iconst (pc := 920) (v := 0) hC1 dL_law__920 ic0 ?_
          refine aw_laload (pc := 921) hC1 dL_law__921 ?_
          refine aw_iload (pc := 922) hC1 dL_law__922 rfl ?_
          refine aw_nmJ (fun (J932 : Int64 → Option Unit) => ∀ (x6 : Int64), AW G C Q (kc + 1) (ks + 6) 7 q4.2 932 [some (.ref b), some (.ref (gad G 0 0)), some (.ref (gad G 0 12)), some (.ref (gad G 0 22)), some (.int i), none, none] [.long x6, .long ((q4.2 0 22 (Int32.toNatClampNeg 0)).toInt64)] (J932 x6)) (fun x6 => ?_) (fun J932 hJ932 => ?_)
          · skip
            refine aw_lcmp (pc := 932) hC1 dL_law__932 ?_
            refine aw_if_eq (pc := 933) (tgt := 938) hC1 dL_law__933 (by decide) (fun _ => ?_) (fun _ => ?_)
            · skip
              refine aw_goto (pc := 938) (tgt := 2965) hC1 dL_law__938 (by decide) ?_
              exact hK i q4.2
            · skip
              exact aw_none
          · skip
            refine aw_if_eq (pc := 924) (tgt := 931) hC1 dL_law__924 (by decide) (fun _ => ?_) (fun _ => ?_)
            · skip
              refine aw_lconst (pc := 931) (v := 0) hC1 dL_law__931 lc0 ?_
              exact aw_drop [5, 6] (hJ932 0)
            · skip
              refine aw_lconst (pc := 927) (v := 1) hC1 dL_law__927 lc1 ?_
              refine aw_goto (pc := 928) (tgt := 932) hC1 dL_law__928 (by decide) ?_
              exact aw_drop [5, 6] (hJ932 1)
        · skip
          refine aw_goto (pc := 938) (tgt := 2965) hC1 dL_law__938 (by decide) ?_
          exact aw_drop [5, 6] (hK i q4.2)
      · skip
        exact aw_none
    · skip
      refine aw_if_eq (pc := 890) (tgt := 897) hC1 dL_law__890 (by decide) (fun _ => ?_) (fun _ => ?_)
      · skip
        refine aw_iconst (pc := 897) (v := 0) hC1 dL_law__897 ic0 ?_
        exact hJ898 0
      · skip
        refine aw_iconst (pc := 893) (v := 1) hC1 dL_law__893 ic1 ?_
        refine aw_goto (pc := 894) (tgt := 898) hC1 dL_law__894 (by decide) ?_
        exact hJ898 1
  · skip
    refine aw_if_eq (pc := 863) (tgt := 870) hC dL_law__863 (by decide) (fun _ => ?_) (fun _ => ?_)
    · skip
      refine aw_iconst (pc := 870) (v := 0) hC dL_law__870 ic0 ?_
      exact hJ871 0
    · skip
      refine aw_iconst (pc := 866) (v := 1) hC dL_law__866 ic1 ?_
      refine aw_goto (pc := 867) (tgt := 871) hC dL_law__867 (by decide) ?_
      exact hJ871 1
theorem dL_law__941 : decode cL_law_ 941 = .ok (.aload_n 1, 1) := by decide +kernel
theorem dL_law__942 : decode cL_law_ 942 = .ok (.aload_n 0, 1) := by decide +kernel
theorem dL_law__943 : decode cL_law_ 943 = .ok (.iload 4, 2) := by decide +kernel
theorem dL_law__945 : decode cL_law_ 945 = .ok (.iconst 1, 1) := by decide +kernel
theorem dL_law__946 : decode cL_law_ 946 = .ok (.iadd, 1) := by decide +kernel
theorem dL_law__947 : decode cL_law_ 947 = .ok (.iaload, 1) := by decide +kernel
theorem dL_law__948 : decode cL_law_ 948 = .ok (.aload_n 0, 1) := by decide +kernel
theorem dL_law__949 : decode cL_law_ 949 = .ok (.iload 4, 2) := by decide +kernel
theorem dL_law__951 : decode cL_law_ 951 = .ok (.iconst 2, 1) := by decide +kernel
theorem dL_law__952 : decode cL_law_ 952 = .ok (.iadd, 1) := by decide +kernel
theorem dL_law__953 : decode cL_law_ 953 = .ok (.iaload, 1) := by decide +kernel
theorem dL_law__954 : decode cL_law_ 954 = .ok (.ifCond .eq 7, 3) := by decide +kernel
theorem dL_law__957 : decode cL_law_ 957 = .ok (.iconst 1, 1) := by decide +kernel
theorem dL_law__958 : decode cL_law_ 958 = .ok (.goto 4, 3) := by decide +kernel
theorem dL_law__961 : decode cL_law_ 961 = .ok (.iconst 0, 1) := by decide +kernel
theorem dL_law__962 : decode cL_law_ 962 = .ok (.aload_n 3, 1) := by decide +kernel
theorem dL_law__963 : decode cL_law_ 963 = .ok (.invokestatic 181, 3) := by decide +kernel
theorem dL_law__966 : decode cL_law_ 966 = .ok (.istore 5, 2) := by decide +kernel
theorem dL_law__968 : decode cL_law_ 968 = .ok (.aload_n 2, 1) := by decide +kernel
theorem dL_law__969 : decode cL_law_ 969 = .ok (.aload_n 0, 1) := by decide +kernel
theorem dL_law__970 : decode cL_law_ 970 = .ok (.iload 4, 2) := by decide +kernel
theorem dL_law__972 : decode cL_law_ 972 = .ok (.iconst 1, 1) := by decide +kernel
theorem dL_law__973 : decode cL_law_ 973 = .ok (.iadd, 1) := by decide +kernel
theorem dL_law__974 : decode cL_law_ 974 = .ok (.iaload, 1) := by decide +kernel
theorem dL_law__975 : decode cL_law_ 975 = .ok (.aload_n 0, 1) := by decide +kernel
theorem dL_law__976 : decode cL_law_ 976 = .ok (.iload 4, 2) := by decide +kernel
theorem dL_law__978 : decode cL_law_ 978 = .ok (.iconst 2, 1) := by decide +kernel
theorem dL_law__979 : decode cL_law_ 979 = .ok (.iadd, 1) := by decide +kernel
theorem dL_law__980 : decode cL_law_ 980 = .ok (.iaload, 1) := by decide +kernel
theorem dL_law__981 : decode cL_law_ 981 = .ok (.ifCond .eq 7, 3) := by decide +kernel
theorem dL_law__984 : decode cL_law_ 984 = .ok (.iconst 1, 1) := by decide +kernel
theorem dL_law__985 : decode cL_law_ 985 = .ok (.goto 4, 3) := by decide +kernel
theorem dL_law__988 : decode cL_law_ 988 = .ok (.iconst 0, 1) := by decide +kernel
theorem dL_law__989 : decode cL_law_ 989 = .ok (.invokevirtual 183, 3) := by decide +kernel
theorem dL_law__992 : decode cL_law_ 992 = .ok (.istore 6, 2) := by decide +kernel
theorem dL_law__994 : decode cL_law_ 994 = .ok (.aload_n 2, 1) := by decide +kernel
theorem dL_law__995 : decode cL_law_ 995 = .ok (.invokevirtual 151, 3) := by decide +kernel
theorem dL_law__998 : decode cL_law_ 998 = .ok (.iload 5, 2) := by decide +kernel
theorem dL_law__1000 : decode cL_law_ 1000 = .ok (.if_icmp .eq 5, 3) := by decide +kernel
theorem dL_law__1005 : decode cL_law_ 1005 = .ok (.iload 5, 2) := by decide +kernel
theorem dL_law__1007 : decode cL_law_ 1007 = .ok (.ifCond .ne 22, 3) := by decide +kernel
theorem dL_law__1010 : decode cL_law_ 1010 = .ok (.aload_n 3, 1) := by decide +kernel
theorem dL_law__1011 : decode cL_law_ 1011 = .ok (.iconst 0, 1) := by decide +kernel
theorem dL_law__1012 : decode cL_law_ 1012 = .ok (.laload, 1) := by decide +kernel
theorem dL_law__1013 : decode cL_law_ 1013 = .ok (.iload 6, 2) := by decide +kernel
theorem dL_law__1015 : decode cL_law_ 1015 = .ok (.ifCond .eq 7, 3) := by decide +kernel
theorem dL_law__1018 : decode cL_law_ 1018 = .ok (.lconst 1, 1) := by decide +kernel
theorem dL_law__1019 : decode cL_law_ 1019 = .ok (.goto 4, 3) := by decide +kernel
theorem dL_law__1022 : decode cL_law_ 1022 = .ok (.lconst 0, 1) := by decide +kernel
theorem dL_law__1023 : decode cL_law_ 1023 = .ok (.lcmp, 1) := by decide +kernel
theorem dL_law__1024 : decode cL_law_ 1024 = .ok (.ifCond .eq 5, 3) := by decide +kernel
theorem dL_law__1029 : decode cL_law_ 1029 = .ok (.goto 1936, 3) := by decide +kernel
def lc_11 (xs : Nat → Int32) (n : Nat) (K : Int32 → Mem → Option Unit) (i : Int32) (μ : Mem) : Option Unit := ix (i + 1) n (ix (i + 2) n (nm (fun (x1 : Int32) => (f_L_key μ (xs (i + 1).toNatClampNeg) x1).bind fun (q2 : Int32 × Mem) => ix (i + 1) n (ix (i + 2) n (nm (fun (x3 : Int32) => (f_X10_key q2.2 (xs (i + 1).toNatClampNeg) x3).bind fun (q4 : Int32 × Mem) => (f_X10_thrown q4.2).bind fun (q5 : Int32) => if q5 = q2.1 then (if q2.1 = 0 then (ix 0 1 (nm (fun (x6 : Int64) => if (lg_cmp ((q4.2 0 22 (Int32.toNatClampNeg 0)).toInt64) x6) = 0 then (K i q4.2) else (none)) fun (J1023 : Int64 → Option Unit) => if q4.1 = 0 then (J1023 0) else (J1023 1))) else (K i q4.2)) else (none)) fun (J989 : Int32 → Option Unit) => if (xs (i + 2).toNatClampNeg) = 0 then (J989 0) else (J989 1)))) fun (J962 : Int32 → Option Unit) => if (xs (i + 2).toNatClampNeg) = 0 then (J962 0) else (J962 1)))
set_option maxHeartbeats 4000000 in
set_option maxRecDepth 100000 in
theorem hlc_11 {G : GG} {C : CX} {Q : Unit → State → Prop} {kc ks b n : Nat} {xs : Nat → Int32} {K : Int32 → Mem → Option Unit} (hl0 : C.2.1.stackTraces = false) (hC : CO G C "SaturdayKeepLaw" cL_law_ 7 62 kc ks (some .boolean)) (hC1 : CO G C "SaturdayKeepLaw" cL_law_ 7 62 (kc + 1) (ks + 6) (some .boolean)) (hX : SC G C b n xs) (hK : ∀ i μ, AW G C Q (kc + 1) (ks + 6) 7 μ 2965 [some (.ref b), some (.ref (gad G 0 0)), some (.ref (gad G 0 12)), some (.ref (gad G 0 22)), some (.int i), none, none] [] (K i μ)) (i : Int32) (μ : Mem) : AW G C Q kc ks 7 μ 941 [some (.ref b), some (.ref (gad G 0 0)), some (.ref (gad G 0 12)), some (.ref (gad G 0 22)), some (.int i), none, none] [] (lc_11 xs n K i μ) := by
  have hK0 := fun i μ => aw_wide (Nat.le_succ kc) (Nat.le_add_right ks 6) (hK i μ)
  delta lc_11
  refine aw_aload_n (pc := 941) (i := 1) hC dL_law__941 rfl rfl ?_
  refine aw_aload_n (pc := 942) (i := 0) hC dL_law__942 rfl rfl ?_
  refine aw_iload (pc := 943) hC dL_law__943 rfl ?_
  refine aw_iconst (pc := 945) (v := 1) hC dL_law__945 ic1 ?_
  refine aw_iadd (pc := 946) hC dL_law__946 ?_
  refine aw_sld (pc := 947) hC hX dL_law__947 ?_
  refine aw_aload_n (pc := 948) (i := 0) hC dL_law__948 rfl rfl ?_
  refine aw_iload (pc := 949) hC dL_law__949 rfl ?_
  refine aw_iconst (pc := 951) (v := 2) hC dL_law__951 ic2 ?_
  refine aw_iadd (pc := 952) hC dL_law__952 ?_
  refine aw_sld (pc := 953) hC hX dL_law__953 ?_
  refine aw_nmJ (fun (J962 : Int32 → Option Unit) => ∀ (x1 : Int32), AW G C Q kc ks 7 μ 962 [some (.ref b), some (.ref (gad G 0 0)), some (.ref (gad G 0 12)), some (.ref (gad G 0 22)), some (.int i), none, none] [.int x1, .int (xs (i + 1).toNatClampNeg), .ref (gad G 0 0)] (J962 x1)) (fun x1 => ?_) (fun J962 hJ962 => ?_)
  · skip
    refine aw_aload_n (pc := 962) (i := 3) hC dL_law__962 rfl rfl ?_
    refine aw_callSH (pc := 963) (As := [.ref (gad G 0 0), .int (xs (i + 1).toNatClampNeg), .int x1, .ref (gad G 0 22)]) hC hC1 mw_L_key kw1001 (by decide) (c_L_key G C.2.1 hl0 μ (xs (i + 1).toNatClampNeg) x1) rfl (Nat.le_of_ble_eq_true rfl) dL_law__963 (fun q2 => ?_)
    refine aw_istore (pc := 966) hC1 dL_law__966 rfl (by decide) ?_
    refine aw_aload_n (pc := 968) (i := 2) hC1 dL_law__968 rfl rfl ?_
    refine aw_aload_n (pc := 969) (i := 0) hC1 dL_law__969 rfl rfl ?_
    refine aw_iload (pc := 970) hC1 dL_law__970 rfl ?_
    refine aw_iconst (pc := 972) (v := 1) hC1 dL_law__972 ic1 ?_
    refine aw_iadd (pc := 973) hC1 dL_law__973 ?_
    refine aw_sld (pc := 974) hC1 hX dL_law__974 ?_
    refine aw_aload_n (pc := 975) (i := 0) hC1 dL_law__975 rfl rfl ?_
    refine aw_iload (pc := 976) hC1 dL_law__976 rfl ?_
    refine aw_iconst (pc := 978) (v := 2) hC1 dL_law__978 ic2 ?_
    refine aw_iadd (pc := 979) hC1 dL_law__979 ?_
    refine aw_sld (pc := 980) hC1 hX dL_law__980 ?_
    refine aw_nmJ (fun (J989 : Int32 → Option Unit) => ∀ (x3 : Int32), AW G C Q (kc + 1) (ks + 6) 7 q2.2 989 [some (.ref b), some (.ref (gad G 0 0)), some (.ref (gad G 0 12)), some (.ref (gad G 0 22)), some (.int i), some (.int q2.1), none] [.int x3, .int (xs (i + 1).toNatClampNeg), .ref (gad G 0 12)] (J989 x3)) (fun x3 => ?_) (fun J989 hJ989 => ?_)
    · skip
      refine aw_callVI (pc := 989) (As := [.int (xs (i + 1).toNatClampNeg), .int x3]) hC1 mb_X10_key kw1624 (by decide) (c_X10_key G C.2.1   q2.2 (xs (i + 1).toNatClampNeg) x3) (v0 (j := 12) (by decide)) rfl rfl rfl (Nat.le_of_ble_eq_true rfl) dL_law__989 (fun q4 => ?_)
      refine aw_istore (pc := 992) hC1 dL_law__992 rfl (by decide) ?_
      refine aw_aload_n (pc := 994) (i := 2) hC1 dL_law__994 rfl rfl ?_
      refine aw_callVR (pc := 995) (As := []) hC1 mb_X10_thrown kw1382 (by decide) (c_X10_thrown G C.2.1   q4.2 ) (v0 (j := 12) (by decide)) rfl rfl rfl (Nat.le_of_ble_eq_true rfl) dL_law__995 (fun q5 => ?_)
      refine aw_iload (pc := 998) hC1 dL_law__998 rfl ?_
      refine aw_icmp_eq (pc := 1000) (tgt := 1005) hC1 dL_law__1000 (by decide) (fun _ => ?_) (fun _ => ?_)
      · skip
        refine aw_iload (pc := 1005) hC1 dL_law__1005 rfl ?_
        refine aw_if_ne (pc := 1007) (tgt := 1029) hC1 dL_law__1007 (by decide) (fun _ => ?_) (fun _ => ?_)
        · skip
          refine aw_aload_n (pc := 1010) (i := 3) hC1 dL_law__1010 rfl rfl ?_
          refine aw_iconst (pc := 1011) (v := 0) hC1 dL_law__1011 ic0 ?_
          refine aw_laload (pc := 1012) hC1 dL_law__1012 ?_
          refine aw_iload (pc := 1013) hC1 dL_law__1013 rfl ?_
          refine aw_nmJ (fun (J1023 : Int64 → Option Unit) => ∀ (x6 : Int64), AW G C Q (kc + 1) (ks + 6) 7 q4.2 1023 [some (.ref b), some (.ref (gad G 0 0)), some (.ref (gad G 0 12)), some (.ref (gad G 0 22)), some (.int i), none, none] [.long x6, .long ((q4.2 0 22 (Int32.toNatClampNeg 0)).toInt64)] (J1023 x6)) (fun x6 => ?_) (fun J1023 hJ1023 => ?_)
          · skip
            refine aw_lcmp (pc := 1023) hC1 dL_law__1023 ?_
            refine aw_if_eq (pc := 1024) (tgt := 1029) hC1 dL_law__1024 (by decide) (fun _ => ?_) (fun _ => ?_)
            · skip
              refine aw_goto (pc := 1029) (tgt := 2965) hC1 dL_law__1029 (by decide) ?_
              exact hK i q4.2
            · skip
              exact aw_none
          · skip
            refine aw_if_eq (pc := 1015) (tgt := 1022) hC1 dL_law__1015 (by decide) (fun _ => ?_) (fun _ => ?_)
            · skip
              refine aw_lconst (pc := 1022) (v := 0) hC1 dL_law__1022 lc0 ?_
              exact aw_drop [5, 6] (hJ1023 0)
            · skip
              refine aw_lconst (pc := 1018) (v := 1) hC1 dL_law__1018 lc1 ?_
              refine aw_goto (pc := 1019) (tgt := 1023) hC1 dL_law__1019 (by decide) ?_
              exact aw_drop [5, 6] (hJ1023 1)
        · skip
          refine aw_goto (pc := 1029) (tgt := 2965) hC1 dL_law__1029 (by decide) ?_
          exact aw_drop [5, 6] (hK i q4.2)
      · skip
        exact aw_none
    · skip
      refine aw_if_eq (pc := 981) (tgt := 988) hC1 dL_law__981 (by decide) (fun _ => ?_) (fun _ => ?_)
      · skip
        refine aw_iconst (pc := 988) (v := 0) hC1 dL_law__988 ic0 ?_
        exact hJ989 0
      · skip
        refine aw_iconst (pc := 984) (v := 1) hC1 dL_law__984 ic1 ?_
        refine aw_goto (pc := 985) (tgt := 989) hC1 dL_law__985 (by decide) ?_
        exact hJ989 1
  · skip
    refine aw_if_eq (pc := 954) (tgt := 961) hC dL_law__954 (by decide) (fun _ => ?_) (fun _ => ?_)
    · skip
      refine aw_iconst (pc := 961) (v := 0) hC dL_law__961 ic0 ?_
      exact hJ962 0
    · skip
      refine aw_iconst (pc := 957) (v := 1) hC dL_law__957 ic1 ?_
      refine aw_goto (pc := 958) (tgt := 962) hC dL_law__958 (by decide) ?_
      exact hJ962 1
theorem dL_law__1032 : decode cL_law_ 1032 = .ok (.aload_n 1, 1) := by decide +kernel
theorem dL_law__1033 : decode cL_law_ 1033 = .ok (.aload_n 0, 1) := by decide +kernel
theorem dL_law__1034 : decode cL_law_ 1034 = .ok (.iload 4, 2) := by decide +kernel
theorem dL_law__1036 : decode cL_law_ 1036 = .ok (.iconst 1, 1) := by decide +kernel
theorem dL_law__1037 : decode cL_law_ 1037 = .ok (.iadd, 1) := by decide +kernel
theorem dL_law__1038 : decode cL_law_ 1038 = .ok (.iaload, 1) := by decide +kernel
theorem dL_law__1039 : decode cL_law_ 1039 = .ok (.aload_n 0, 1) := by decide +kernel
theorem dL_law__1040 : decode cL_law_ 1040 = .ok (.iload 4, 2) := by decide +kernel
theorem dL_law__1042 : decode cL_law_ 1042 = .ok (.iconst 2, 1) := by decide +kernel
theorem dL_law__1043 : decode cL_law_ 1043 = .ok (.iadd, 1) := by decide +kernel
theorem dL_law__1044 : decode cL_law_ 1044 = .ok (.iaload, 1) := by decide +kernel
theorem dL_law__1045 : decode cL_law_ 1045 = .ok (.aload_n 0, 1) := by decide +kernel
theorem dL_law__1046 : decode cL_law_ 1046 = .ok (.iload 4, 2) := by decide +kernel
theorem dL_law__1048 : decode cL_law_ 1048 = .ok (.iconst 3, 1) := by decide +kernel
theorem dL_law__1049 : decode cL_law_ 1049 = .ok (.iadd, 1) := by decide +kernel
theorem dL_law__1050 : decode cL_law_ 1050 = .ok (.iaload, 1) := by decide +kernel
theorem dL_law__1051 : decode cL_law_ 1051 = .ok (.ifCond .eq 7, 3) := by decide +kernel
theorem dL_law__1054 : decode cL_law_ 1054 = .ok (.iconst 1, 1) := by decide +kernel
theorem dL_law__1055 : decode cL_law_ 1055 = .ok (.goto 4, 3) := by decide +kernel
theorem dL_law__1058 : decode cL_law_ 1058 = .ok (.iconst 0, 1) := by decide +kernel
theorem dL_law__1059 : decode cL_law_ 1059 = .ok (.aload_n 3, 1) := by decide +kernel
theorem dL_law__1060 : decode cL_law_ 1060 = .ok (.invokestatic 184, 3) := by decide +kernel
theorem dL_law__1063 : decode cL_law_ 1063 = .ok (.istore 5, 2) := by decide +kernel
theorem dL_law__1065 : decode cL_law_ 1065 = .ok (.aload_n 2, 1) := by decide +kernel
theorem dL_law__1066 : decode cL_law_ 1066 = .ok (.aload_n 0, 1) := by decide +kernel
theorem dL_law__1067 : decode cL_law_ 1067 = .ok (.iload 4, 2) := by decide +kernel
theorem dL_law__1069 : decode cL_law_ 1069 = .ok (.iconst 1, 1) := by decide +kernel
theorem dL_law__1070 : decode cL_law_ 1070 = .ok (.iadd, 1) := by decide +kernel
theorem dL_law__1071 : decode cL_law_ 1071 = .ok (.iaload, 1) := by decide +kernel
theorem dL_law__1072 : decode cL_law_ 1072 = .ok (.aload_n 0, 1) := by decide +kernel
theorem dL_law__1073 : decode cL_law_ 1073 = .ok (.iload 4, 2) := by decide +kernel
theorem dL_law__1075 : decode cL_law_ 1075 = .ok (.iconst 2, 1) := by decide +kernel
theorem dL_law__1076 : decode cL_law_ 1076 = .ok (.iadd, 1) := by decide +kernel
theorem dL_law__1077 : decode cL_law_ 1077 = .ok (.iaload, 1) := by decide +kernel
theorem dL_law__1078 : decode cL_law_ 1078 = .ok (.aload_n 0, 1) := by decide +kernel
theorem dL_law__1079 : decode cL_law_ 1079 = .ok (.iload 4, 2) := by decide +kernel
theorem dL_law__1081 : decode cL_law_ 1081 = .ok (.iconst 3, 1) := by decide +kernel
theorem dL_law__1082 : decode cL_law_ 1082 = .ok (.iadd, 1) := by decide +kernel
theorem dL_law__1083 : decode cL_law_ 1083 = .ok (.iaload, 1) := by decide +kernel
theorem dL_law__1084 : decode cL_law_ 1084 = .ok (.ifCond .eq 7, 3) := by decide +kernel
theorem dL_law__1087 : decode cL_law_ 1087 = .ok (.iconst 1, 1) := by decide +kernel
theorem dL_law__1088 : decode cL_law_ 1088 = .ok (.goto 4, 3) := by decide +kernel
theorem dL_law__1091 : decode cL_law_ 1091 = .ok (.iconst 0, 1) := by decide +kernel
theorem dL_law__1092 : decode cL_law_ 1092 = .ok (.invokevirtual 187, 3) := by decide +kernel
theorem dL_law__1095 : decode cL_law_ 1095 = .ok (.istore 6, 2) := by decide +kernel
theorem dL_law__1097 : decode cL_law_ 1097 = .ok (.aload_n 2, 1) := by decide +kernel
theorem dL_law__1098 : decode cL_law_ 1098 = .ok (.invokevirtual 151, 3) := by decide +kernel
theorem dL_law__1101 : decode cL_law_ 1101 = .ok (.iload 5, 2) := by decide +kernel
theorem dL_law__1103 : decode cL_law_ 1103 = .ok (.if_icmp .eq 5, 3) := by decide +kernel
theorem dL_law__1108 : decode cL_law_ 1108 = .ok (.iload 5, 2) := by decide +kernel
theorem dL_law__1110 : decode cL_law_ 1110 = .ok (.ifCond .ne 22, 3) := by decide +kernel
theorem dL_law__1113 : decode cL_law_ 1113 = .ok (.aload_n 3, 1) := by decide +kernel
theorem dL_law__1114 : decode cL_law_ 1114 = .ok (.iconst 0, 1) := by decide +kernel
theorem dL_law__1115 : decode cL_law_ 1115 = .ok (.laload, 1) := by decide +kernel
theorem dL_law__1116 : decode cL_law_ 1116 = .ok (.iload 6, 2) := by decide +kernel
theorem dL_law__1118 : decode cL_law_ 1118 = .ok (.ifCond .eq 7, 3) := by decide +kernel
theorem dL_law__1121 : decode cL_law_ 1121 = .ok (.lconst 1, 1) := by decide +kernel
theorem dL_law__1122 : decode cL_law_ 1122 = .ok (.goto 4, 3) := by decide +kernel
theorem dL_law__1125 : decode cL_law_ 1125 = .ok (.lconst 0, 1) := by decide +kernel
theorem dL_law__1126 : decode cL_law_ 1126 = .ok (.lcmp, 1) := by decide +kernel
theorem dL_law__1127 : decode cL_law_ 1127 = .ok (.ifCond .eq 5, 3) := by decide +kernel
theorem dL_law__1132 : decode cL_law_ 1132 = .ok (.goto 1833, 3) := by decide +kernel
def lc_12 (xs : Nat → Int32) (n : Nat) (K : Int32 → Mem → Option Unit) (i : Int32) (μ : Mem) : Option Unit := ix (i + 1) n (ix (i + 2) n (ix (i + 3) n (nm (fun (x1 : Int32) => (f_L_hole μ (xs (i + 1).toNatClampNeg) (xs (i + 2).toNatClampNeg) x1).bind fun (q2 : Int32 × Mem) => ix (i + 1) n (ix (i + 2) n (ix (i + 3) n (nm (fun (x3 : Int32) => (f_X10_hole q2.2 (xs (i + 1).toNatClampNeg) (xs (i + 2).toNatClampNeg) x3).bind fun (q4 : Int32 × Mem) => (f_X10_thrown q4.2).bind fun (q5 : Int32) => if q5 = q2.1 then (if q2.1 = 0 then (ix 0 1 (nm (fun (x6 : Int64) => if (lg_cmp ((q4.2 0 22 (Int32.toNatClampNeg 0)).toInt64) x6) = 0 then (K i q4.2) else (none)) fun (J1126 : Int64 → Option Unit) => if q4.1 = 0 then (J1126 0) else (J1126 1))) else (K i q4.2)) else (none)) fun (J1092 : Int32 → Option Unit) => if (xs (i + 3).toNatClampNeg) = 0 then (J1092 0) else (J1092 1))))) fun (J1059 : Int32 → Option Unit) => if (xs (i + 3).toNatClampNeg) = 0 then (J1059 0) else (J1059 1))))
set_option maxHeartbeats 4000000 in
set_option maxRecDepth 100000 in
theorem hlc_12 {G : GG} {C : CX} {Q : Unit → State → Prop} {kc ks b n : Nat} {xs : Nat → Int32} {K : Int32 → Mem → Option Unit} (hl0 : C.2.1.stackTraces = false) (hC : CO G C "SaturdayKeepLaw" cL_law_ 7 62 kc ks (some .boolean)) (hC1 : CO G C "SaturdayKeepLaw" cL_law_ 7 62 (kc + 1) (ks + 6) (some .boolean)) (hX : SC G C b n xs) (hK : ∀ i μ, AW G C Q (kc + 1) (ks + 6) 7 μ 2965 [some (.ref b), some (.ref (gad G 0 0)), some (.ref (gad G 0 12)), some (.ref (gad G 0 22)), some (.int i), none, none] [] (K i μ)) (i : Int32) (μ : Mem) : AW G C Q kc ks 7 μ 1032 [some (.ref b), some (.ref (gad G 0 0)), some (.ref (gad G 0 12)), some (.ref (gad G 0 22)), some (.int i), none, none] [] (lc_12 xs n K i μ) := by
  have hK0 := fun i μ => aw_wide (Nat.le_succ kc) (Nat.le_add_right ks 6) (hK i μ)
  delta lc_12
  refine aw_aload_n (pc := 1032) (i := 1) hC dL_law__1032 rfl rfl ?_
  refine aw_aload_n (pc := 1033) (i := 0) hC dL_law__1033 rfl rfl ?_
  refine aw_iload (pc := 1034) hC dL_law__1034 rfl ?_
  refine aw_iconst (pc := 1036) (v := 1) hC dL_law__1036 ic1 ?_
  refine aw_iadd (pc := 1037) hC dL_law__1037 ?_
  refine aw_sld (pc := 1038) hC hX dL_law__1038 ?_
  refine aw_aload_n (pc := 1039) (i := 0) hC dL_law__1039 rfl rfl ?_
  refine aw_iload (pc := 1040) hC dL_law__1040 rfl ?_
  refine aw_iconst (pc := 1042) (v := 2) hC dL_law__1042 ic2 ?_
  refine aw_iadd (pc := 1043) hC dL_law__1043 ?_
  refine aw_sld (pc := 1044) hC hX dL_law__1044 ?_
  refine aw_aload_n (pc := 1045) (i := 0) hC dL_law__1045 rfl rfl ?_
  refine aw_iload (pc := 1046) hC dL_law__1046 rfl ?_
  refine aw_iconst (pc := 1048) (v := 3) hC dL_law__1048 ic3 ?_
  refine aw_iadd (pc := 1049) hC dL_law__1049 ?_
  refine aw_sld (pc := 1050) hC hX dL_law__1050 ?_
  refine aw_nmJ (fun (J1059 : Int32 → Option Unit) => ∀ (x1 : Int32), AW G C Q kc ks 7 μ 1059 [some (.ref b), some (.ref (gad G 0 0)), some (.ref (gad G 0 12)), some (.ref (gad G 0 22)), some (.int i), none, none] [.int x1, .int (xs (i + 2).toNatClampNeg), .int (xs (i + 1).toNatClampNeg), .ref (gad G 0 0)] (J1059 x1)) (fun x1 => ?_) (fun J1059 hJ1059 => ?_)
  · skip
    refine aw_aload_n (pc := 1059) (i := 3) hC dL_law__1059 rfl rfl ?_
    refine aw_callSH (pc := 1060) (As := [.ref (gad G 0 0), .int (xs (i + 1).toNatClampNeg), .int (xs (i + 2).toNatClampNeg), .int x1, .ref (gad G 0 22)]) hC hC1 mw_L_hole kw1008 (by decide) (c_L_hole G C.2.1 hl0 μ (xs (i + 1).toNatClampNeg) (xs (i + 2).toNatClampNeg) x1) rfl (Nat.le_of_ble_eq_true rfl) dL_law__1060 (fun q2 => ?_)
    refine aw_istore (pc := 1063) hC1 dL_law__1063 rfl (by decide) ?_
    refine aw_aload_n (pc := 1065) (i := 2) hC1 dL_law__1065 rfl rfl ?_
    refine aw_aload_n (pc := 1066) (i := 0) hC1 dL_law__1066 rfl rfl ?_
    refine aw_iload (pc := 1067) hC1 dL_law__1067 rfl ?_
    refine aw_iconst (pc := 1069) (v := 1) hC1 dL_law__1069 ic1 ?_
    refine aw_iadd (pc := 1070) hC1 dL_law__1070 ?_
    refine aw_sld (pc := 1071) hC1 hX dL_law__1071 ?_
    refine aw_aload_n (pc := 1072) (i := 0) hC1 dL_law__1072 rfl rfl ?_
    refine aw_iload (pc := 1073) hC1 dL_law__1073 rfl ?_
    refine aw_iconst (pc := 1075) (v := 2) hC1 dL_law__1075 ic2 ?_
    refine aw_iadd (pc := 1076) hC1 dL_law__1076 ?_
    refine aw_sld (pc := 1077) hC1 hX dL_law__1077 ?_
    refine aw_aload_n (pc := 1078) (i := 0) hC1 dL_law__1078 rfl rfl ?_
    refine aw_iload (pc := 1079) hC1 dL_law__1079 rfl ?_
    refine aw_iconst (pc := 1081) (v := 3) hC1 dL_law__1081 ic3 ?_
    refine aw_iadd (pc := 1082) hC1 dL_law__1082 ?_
    refine aw_sld (pc := 1083) hC1 hX dL_law__1083 ?_
    refine aw_nmJ (fun (J1092 : Int32 → Option Unit) => ∀ (x3 : Int32), AW G C Q (kc + 1) (ks + 6) 7 q2.2 1092 [some (.ref b), some (.ref (gad G 0 0)), some (.ref (gad G 0 12)), some (.ref (gad G 0 22)), some (.int i), some (.int q2.1), none] [.int x3, .int (xs (i + 2).toNatClampNeg), .int (xs (i + 1).toNatClampNeg), .ref (gad G 0 12)] (J1092 x3)) (fun x3 => ?_) (fun J1092 hJ1092 => ?_)
    · skip
      refine aw_callVI (pc := 1092) (As := [.int (xs (i + 1).toNatClampNeg), .int (xs (i + 2).toNatClampNeg), .int x3]) hC1 mb_X10_hole kw1628 (by decide) (c_X10_hole G C.2.1   q2.2 (xs (i + 1).toNatClampNeg) (xs (i + 2).toNatClampNeg) x3) (v0 (j := 12) (by decide)) rfl rfl rfl (Nat.le_of_ble_eq_true rfl) dL_law__1092 (fun q4 => ?_)
      refine aw_istore (pc := 1095) hC1 dL_law__1095 rfl (by decide) ?_
      refine aw_aload_n (pc := 1097) (i := 2) hC1 dL_law__1097 rfl rfl ?_
      refine aw_callVR (pc := 1098) (As := []) hC1 mb_X10_thrown kw1382 (by decide) (c_X10_thrown G C.2.1   q4.2 ) (v0 (j := 12) (by decide)) rfl rfl rfl (Nat.le_of_ble_eq_true rfl) dL_law__1098 (fun q5 => ?_)
      refine aw_iload (pc := 1101) hC1 dL_law__1101 rfl ?_
      refine aw_icmp_eq (pc := 1103) (tgt := 1108) hC1 dL_law__1103 (by decide) (fun _ => ?_) (fun _ => ?_)
      · skip
        refine aw_iload (pc := 1108) hC1 dL_law__1108 rfl ?_
        refine aw_if_ne (pc := 1110) (tgt := 1132) hC1 dL_law__1110 (by decide) (fun _ => ?_) (fun _ => ?_)
        · skip
          refine aw_aload_n (pc := 1113) (i := 3) hC1 dL_law__1113 rfl rfl ?_
          refine aw_iconst (pc := 1114) (v := 0) hC1 dL_law__1114 ic0 ?_
          refine aw_laload (pc := 1115) hC1 dL_law__1115 ?_
          refine aw_iload (pc := 1116) hC1 dL_law__1116 rfl ?_
          refine aw_nmJ (fun (J1126 : Int64 → Option Unit) => ∀ (x6 : Int64), AW G C Q (kc + 1) (ks + 6) 7 q4.2 1126 [some (.ref b), some (.ref (gad G 0 0)), some (.ref (gad G 0 12)), some (.ref (gad G 0 22)), some (.int i), none, none] [.long x6, .long ((q4.2 0 22 (Int32.toNatClampNeg 0)).toInt64)] (J1126 x6)) (fun x6 => ?_) (fun J1126 hJ1126 => ?_)
          · skip
            refine aw_lcmp (pc := 1126) hC1 dL_law__1126 ?_
            refine aw_if_eq (pc := 1127) (tgt := 1132) hC1 dL_law__1127 (by decide) (fun _ => ?_) (fun _ => ?_)
            · skip
              refine aw_goto (pc := 1132) (tgt := 2965) hC1 dL_law__1132 (by decide) ?_
              exact hK i q4.2
            · skip
              exact aw_none
          · skip
            refine aw_if_eq (pc := 1118) (tgt := 1125) hC1 dL_law__1118 (by decide) (fun _ => ?_) (fun _ => ?_)
            · skip
              refine aw_lconst (pc := 1125) (v := 0) hC1 dL_law__1125 lc0 ?_
              exact aw_drop [5, 6] (hJ1126 0)
            · skip
              refine aw_lconst (pc := 1121) (v := 1) hC1 dL_law__1121 lc1 ?_
              refine aw_goto (pc := 1122) (tgt := 1126) hC1 dL_law__1122 (by decide) ?_
              exact aw_drop [5, 6] (hJ1126 1)
        · skip
          refine aw_goto (pc := 1132) (tgt := 2965) hC1 dL_law__1132 (by decide) ?_
          exact aw_drop [5, 6] (hK i q4.2)
      · skip
        exact aw_none
    · skip
      refine aw_if_eq (pc := 1084) (tgt := 1091) hC1 dL_law__1084 (by decide) (fun _ => ?_) (fun _ => ?_)
      · skip
        refine aw_iconst (pc := 1091) (v := 0) hC1 dL_law__1091 ic0 ?_
        exact hJ1092 0
      · skip
        refine aw_iconst (pc := 1087) (v := 1) hC1 dL_law__1087 ic1 ?_
        refine aw_goto (pc := 1088) (tgt := 1092) hC1 dL_law__1088 (by decide) ?_
        exact hJ1092 1
  · skip
    refine aw_if_eq (pc := 1051) (tgt := 1058) hC dL_law__1051 (by decide) (fun _ => ?_) (fun _ => ?_)
    · skip
      refine aw_iconst (pc := 1058) (v := 0) hC dL_law__1058 ic0 ?_
      exact hJ1059 0
    · skip
      refine aw_iconst (pc := 1054) (v := 1) hC dL_law__1054 ic1 ?_
      refine aw_goto (pc := 1055) (tgt := 1059) hC dL_law__1055 (by decide) ?_
      exact hJ1059 1
theorem dL_law__1135 : decode cL_law_ 1135 = .ok (.aload_n 1, 1) := by decide +kernel
theorem dL_law__1136 : decode cL_law_ 1136 = .ok (.aload_n 0, 1) := by decide +kernel
theorem dL_law__1137 : decode cL_law_ 1137 = .ok (.iload 4, 2) := by decide +kernel
theorem dL_law__1139 : decode cL_law_ 1139 = .ok (.iconst 1, 1) := by decide +kernel
theorem dL_law__1140 : decode cL_law_ 1140 = .ok (.iadd, 1) := by decide +kernel
theorem dL_law__1141 : decode cL_law_ 1141 = .ok (.iaload, 1) := by decide +kernel
theorem dL_law__1142 : decode cL_law_ 1142 = .ok (.aload_n 3, 1) := by decide +kernel
theorem dL_law__1143 : decode cL_law_ 1143 = .ok (.invokestatic 188, 3) := by decide +kernel
theorem dL_law__1146 : decode cL_law_ 1146 = .ok (.istore 5, 2) := by decide +kernel
theorem dL_law__1148 : decode cL_law_ 1148 = .ok (.aload_n 2, 1) := by decide +kernel
theorem dL_law__1149 : decode cL_law_ 1149 = .ok (.aload_n 0, 1) := by decide +kernel
theorem dL_law__1150 : decode cL_law_ 1150 = .ok (.iload 4, 2) := by decide +kernel
theorem dL_law__1152 : decode cL_law_ 1152 = .ok (.iconst 1, 1) := by decide +kernel
theorem dL_law__1153 : decode cL_law_ 1153 = .ok (.iadd, 1) := by decide +kernel
theorem dL_law__1154 : decode cL_law_ 1154 = .ok (.iaload, 1) := by decide +kernel
theorem dL_law__1155 : decode cL_law_ 1155 = .ok (.invokevirtual 191, 3) := by decide +kernel
theorem dL_law__1158 : decode cL_law_ 1158 = .ok (.istore 6, 2) := by decide +kernel
theorem dL_law__1160 : decode cL_law_ 1160 = .ok (.aload_n 2, 1) := by decide +kernel
theorem dL_law__1161 : decode cL_law_ 1161 = .ok (.invokevirtual 151, 3) := by decide +kernel
theorem dL_law__1164 : decode cL_law_ 1164 = .ok (.iload 5, 2) := by decide +kernel
theorem dL_law__1166 : decode cL_law_ 1166 = .ok (.if_icmp .eq 5, 3) := by decide +kernel
theorem dL_law__1171 : decode cL_law_ 1171 = .ok (.iload 5, 2) := by decide +kernel
theorem dL_law__1173 : decode cL_law_ 1173 = .ok (.ifCond .ne 15, 3) := by decide +kernel
theorem dL_law__1176 : decode cL_law_ 1176 = .ok (.aload_n 3, 1) := by decide +kernel
theorem dL_law__1177 : decode cL_law_ 1177 = .ok (.iconst 0, 1) := by decide +kernel
theorem dL_law__1178 : decode cL_law_ 1178 = .ok (.laload, 1) := by decide +kernel
theorem dL_law__1179 : decode cL_law_ 1179 = .ok (.iload 6, 2) := by decide +kernel
theorem dL_law__1181 : decode cL_law_ 1181 = .ok (.i2l, 1) := by decide +kernel
theorem dL_law__1182 : decode cL_law_ 1182 = .ok (.lcmp, 1) := by decide +kernel
theorem dL_law__1183 : decode cL_law_ 1183 = .ok (.ifCond .eq 5, 3) := by decide +kernel
theorem dL_law__1188 : decode cL_law_ 1188 = .ok (.goto 1777, 3) := by decide +kernel
def lc_13 (xs : Nat → Int32) (n : Nat) (K : Int32 → Mem → Option Unit) (i : Int32) (μ : Mem) : Option Unit := ix (i + 1) n ((f_L_bath μ (xs (i + 1).toNatClampNeg)).bind fun (q1 : Int32 × Mem) => ix (i + 1) n ((f_X10_bath q1.2 (xs (i + 1).toNatClampNeg)).bind fun (q2 : Int32 × Mem) => (f_X10_thrown q2.2).bind fun (q3 : Int32) => if q3 = q1.1 then (if q1.1 = 0 then (ix 0 1 (if (lg_cmp ((q2.2 0 22 (Int32.toNatClampNeg 0)).toInt64) q2.1.toInt64) = 0 then (K i q2.2) else (none))) else (K i q2.2)) else (none)))
set_option maxHeartbeats 4000000 in
set_option maxRecDepth 100000 in
theorem hlc_13 {G : GG} {C : CX} {Q : Unit → State → Prop} {kc ks b n : Nat} {xs : Nat → Int32} {K : Int32 → Mem → Option Unit} (hl0 : C.2.1.stackTraces = false) (hC : CO G C "SaturdayKeepLaw" cL_law_ 7 62 kc ks (some .boolean)) (hC1 : CO G C "SaturdayKeepLaw" cL_law_ 7 62 (kc + 1) (ks + 6) (some .boolean)) (hX : SC G C b n xs) (hK : ∀ i μ, AW G C Q (kc + 1) (ks + 6) 7 μ 2965 [some (.ref b), some (.ref (gad G 0 0)), some (.ref (gad G 0 12)), some (.ref (gad G 0 22)), some (.int i), none, none] [] (K i μ)) (i : Int32) (μ : Mem) : AW G C Q kc ks 7 μ 1135 [some (.ref b), some (.ref (gad G 0 0)), some (.ref (gad G 0 12)), some (.ref (gad G 0 22)), some (.int i), none, none] [] (lc_13 xs n K i μ) := by
  have hK0 := fun i μ => aw_wide (Nat.le_succ kc) (Nat.le_add_right ks 6) (hK i μ)
  delta lc_13
  refine aw_aload_n (pc := 1135) (i := 1) hC dL_law__1135 rfl rfl ?_
  refine aw_aload_n (pc := 1136) (i := 0) hC dL_law__1136 rfl rfl ?_
  refine aw_iload (pc := 1137) hC dL_law__1137 rfl ?_
  refine aw_iconst (pc := 1139) (v := 1) hC dL_law__1139 ic1 ?_
  refine aw_iadd (pc := 1140) hC dL_law__1140 ?_
  refine aw_sld (pc := 1141) hC hX dL_law__1141 ?_
  refine aw_aload_n (pc := 1142) (i := 3) hC dL_law__1142 rfl rfl ?_
  refine aw_callSH (pc := 1143) (As := [.ref (gad G 0 0), .int (xs (i + 1).toNatClampNeg), .ref (gad G 0 22)]) hC hC1 mw_L_bath kw1017 (by decide) (c_L_bath G C.2.1 hl0 μ (xs (i + 1).toNatClampNeg)) rfl (Nat.le_of_ble_eq_true rfl) dL_law__1143 (fun q1 => ?_)
  refine aw_istore (pc := 1146) hC1 dL_law__1146 rfl (by decide) ?_
  refine aw_aload_n (pc := 1148) (i := 2) hC1 dL_law__1148 rfl rfl ?_
  refine aw_aload_n (pc := 1149) (i := 0) hC1 dL_law__1149 rfl rfl ?_
  refine aw_iload (pc := 1150) hC1 dL_law__1150 rfl ?_
  refine aw_iconst (pc := 1152) (v := 1) hC1 dL_law__1152 ic1 ?_
  refine aw_iadd (pc := 1153) hC1 dL_law__1153 ?_
  refine aw_sld (pc := 1154) hC1 hX dL_law__1154 ?_
  refine aw_callVI (pc := 1155) (As := [.int (xs (i + 1).toNatClampNeg)]) hC1 mb_X10_bath kw1632 (by decide) (c_X10_bath G C.2.1   q1.2 (xs (i + 1).toNatClampNeg)) (v0 (j := 12) (by decide)) rfl rfl rfl (Nat.le_of_ble_eq_true rfl) dL_law__1155 (fun q2 => ?_)
  refine aw_istore (pc := 1158) hC1 dL_law__1158 rfl (by decide) ?_
  refine aw_aload_n (pc := 1160) (i := 2) hC1 dL_law__1160 rfl rfl ?_
  refine aw_callVR (pc := 1161) (As := []) hC1 mb_X10_thrown kw1382 (by decide) (c_X10_thrown G C.2.1   q2.2 ) (v0 (j := 12) (by decide)) rfl rfl rfl (Nat.le_of_ble_eq_true rfl) dL_law__1161 (fun q3 => ?_)
  refine aw_iload (pc := 1164) hC1 dL_law__1164 rfl ?_
  refine aw_icmp_eq (pc := 1166) (tgt := 1171) hC1 dL_law__1166 (by decide) (fun _ => ?_) (fun _ => ?_)
  · skip
    refine aw_iload (pc := 1171) hC1 dL_law__1171 rfl ?_
    refine aw_if_ne (pc := 1173) (tgt := 1188) hC1 dL_law__1173 (by decide) (fun _ => ?_) (fun _ => ?_)
    · skip
      refine aw_aload_n (pc := 1176) (i := 3) hC1 dL_law__1176 rfl rfl ?_
      refine aw_iconst (pc := 1177) (v := 0) hC1 dL_law__1177 ic0 ?_
      refine aw_laload (pc := 1178) hC1 dL_law__1178 ?_
      refine aw_iload (pc := 1179) hC1 dL_law__1179 rfl ?_
      refine aw_i2l (pc := 1181) hC1 dL_law__1181 ?_
      refine aw_lcmp (pc := 1182) hC1 dL_law__1182 ?_
      refine aw_if_eq (pc := 1183) (tgt := 1188) hC1 dL_law__1183 (by decide) (fun _ => ?_) (fun _ => ?_)
      · skip
        refine aw_goto (pc := 1188) (tgt := 2965) hC1 dL_law__1188 (by decide) ?_
        exact aw_drop [5, 6] (hK i q2.2)
      · skip
        exact aw_none
    · skip
      refine aw_goto (pc := 1188) (tgt := 2965) hC1 dL_law__1188 (by decide) ?_
      exact aw_drop [5, 6] (hK i q2.2)
  · skip
    exact aw_none
theorem dL_law__1191 : decode cL_law_ 1191 = .ok (.aload_n 1, 1) := by decide +kernel
theorem dL_law__1192 : decode cL_law_ 1192 = .ok (.aload_n 0, 1) := by decide +kernel
theorem dL_law__1193 : decode cL_law_ 1193 = .ok (.iload 4, 2) := by decide +kernel
theorem dL_law__1195 : decode cL_law_ 1195 = .ok (.iconst 1, 1) := by decide +kernel
theorem dL_law__1196 : decode cL_law_ 1196 = .ok (.iadd, 1) := by decide +kernel
theorem dL_law__1197 : decode cL_law_ 1197 = .ok (.iaload, 1) := by decide +kernel
theorem dL_law__1198 : decode cL_law_ 1198 = .ok (.aload_n 3, 1) := by decide +kernel
theorem dL_law__1199 : decode cL_law_ 1199 = .ok (.invokestatic 192, 3) := by decide +kernel
theorem dL_law__1202 : decode cL_law_ 1202 = .ok (.istore 5, 2) := by decide +kernel
theorem dL_law__1204 : decode cL_law_ 1204 = .ok (.aload_n 2, 1) := by decide +kernel
theorem dL_law__1205 : decode cL_law_ 1205 = .ok (.aload_n 0, 1) := by decide +kernel
theorem dL_law__1206 : decode cL_law_ 1206 = .ok (.iload 4, 2) := by decide +kernel
theorem dL_law__1208 : decode cL_law_ 1208 = .ok (.iconst 1, 1) := by decide +kernel
theorem dL_law__1209 : decode cL_law_ 1209 = .ok (.iadd, 1) := by decide +kernel
theorem dL_law__1210 : decode cL_law_ 1210 = .ok (.iaload, 1) := by decide +kernel
theorem dL_law__1211 : decode cL_law_ 1211 = .ok (.invokevirtual 194, 3) := by decide +kernel
theorem dL_law__1214 : decode cL_law_ 1214 = .ok (.istore 6, 2) := by decide +kernel
theorem dL_law__1216 : decode cL_law_ 1216 = .ok (.aload_n 2, 1) := by decide +kernel
theorem dL_law__1217 : decode cL_law_ 1217 = .ok (.invokevirtual 151, 3) := by decide +kernel
theorem dL_law__1220 : decode cL_law_ 1220 = .ok (.iload 5, 2) := by decide +kernel
theorem dL_law__1222 : decode cL_law_ 1222 = .ok (.if_icmp .eq 5, 3) := by decide +kernel
theorem dL_law__1227 : decode cL_law_ 1227 = .ok (.iload 5, 2) := by decide +kernel
theorem dL_law__1229 : decode cL_law_ 1229 = .ok (.ifCond .ne 15, 3) := by decide +kernel
theorem dL_law__1232 : decode cL_law_ 1232 = .ok (.aload_n 3, 1) := by decide +kernel
theorem dL_law__1233 : decode cL_law_ 1233 = .ok (.iconst 0, 1) := by decide +kernel
theorem dL_law__1234 : decode cL_law_ 1234 = .ok (.laload, 1) := by decide +kernel
theorem dL_law__1235 : decode cL_law_ 1235 = .ok (.iload 6, 2) := by decide +kernel
theorem dL_law__1237 : decode cL_law_ 1237 = .ok (.i2l, 1) := by decide +kernel
theorem dL_law__1238 : decode cL_law_ 1238 = .ok (.lcmp, 1) := by decide +kernel
theorem dL_law__1239 : decode cL_law_ 1239 = .ok (.ifCond .eq 5, 3) := by decide +kernel
theorem dL_law__1244 : decode cL_law_ 1244 = .ok (.goto 1721, 3) := by decide +kernel
def lc_14 (xs : Nat → Int32) (n : Nat) (K : Int32 → Mem → Option Unit) (i : Int32) (μ : Mem) : Option Unit := ix (i + 1) n ((f_L_keep μ (xs (i + 1).toNatClampNeg)).bind fun (q1 : Int32 × Mem) => ix (i + 1) n ((f_X10_keep q1.2 (xs (i + 1).toNatClampNeg)).bind fun (q2 : Int32 × Mem) => (f_X10_thrown q2.2).bind fun (q3 : Int32) => if q3 = q1.1 then (if q1.1 = 0 then (ix 0 1 (if (lg_cmp ((q2.2 0 22 (Int32.toNatClampNeg 0)).toInt64) q2.1.toInt64) = 0 then (K i q2.2) else (none))) else (K i q2.2)) else (none)))
set_option maxHeartbeats 4000000 in
set_option maxRecDepth 100000 in
theorem hlc_14 {G : GG} {C : CX} {Q : Unit → State → Prop} {kc ks b n : Nat} {xs : Nat → Int32} {K : Int32 → Mem → Option Unit} (hl0 : C.2.1.stackTraces = false) (hC : CO G C "SaturdayKeepLaw" cL_law_ 7 62 kc ks (some .boolean)) (hC1 : CO G C "SaturdayKeepLaw" cL_law_ 7 62 (kc + 1) (ks + 6) (some .boolean)) (hX : SC G C b n xs) (hK : ∀ i μ, AW G C Q (kc + 1) (ks + 6) 7 μ 2965 [some (.ref b), some (.ref (gad G 0 0)), some (.ref (gad G 0 12)), some (.ref (gad G 0 22)), some (.int i), none, none] [] (K i μ)) (i : Int32) (μ : Mem) : AW G C Q kc ks 7 μ 1191 [some (.ref b), some (.ref (gad G 0 0)), some (.ref (gad G 0 12)), some (.ref (gad G 0 22)), some (.int i), none, none] [] (lc_14 xs n K i μ) := by
  have hK0 := fun i μ => aw_wide (Nat.le_succ kc) (Nat.le_add_right ks 6) (hK i μ)
  delta lc_14
  refine aw_aload_n (pc := 1191) (i := 1) hC dL_law__1191 rfl rfl ?_
  refine aw_aload_n (pc := 1192) (i := 0) hC dL_law__1192 rfl rfl ?_
  refine aw_iload (pc := 1193) hC dL_law__1193 rfl ?_
  refine aw_iconst (pc := 1195) (v := 1) hC dL_law__1195 ic1 ?_
  refine aw_iadd (pc := 1196) hC dL_law__1196 ?_
  refine aw_sld (pc := 1197) hC hX dL_law__1197 ?_
  refine aw_aload_n (pc := 1198) (i := 3) hC dL_law__1198 rfl rfl ?_
  refine aw_callSH (pc := 1199) (As := [.ref (gad G 0 0), .int (xs (i + 1).toNatClampNeg), .ref (gad G 0 22)]) hC hC1 mw_L_keep kw1024 (by decide) (c_L_keep G C.2.1 hl0 μ (xs (i + 1).toNatClampNeg)) rfl (Nat.le_of_ble_eq_true rfl) dL_law__1199 (fun q1 => ?_)
  refine aw_istore (pc := 1202) hC1 dL_law__1202 rfl (by decide) ?_
  refine aw_aload_n (pc := 1204) (i := 2) hC1 dL_law__1204 rfl rfl ?_
  refine aw_aload_n (pc := 1205) (i := 0) hC1 dL_law__1205 rfl rfl ?_
  refine aw_iload (pc := 1206) hC1 dL_law__1206 rfl ?_
  refine aw_iconst (pc := 1208) (v := 1) hC1 dL_law__1208 ic1 ?_
  refine aw_iadd (pc := 1209) hC1 dL_law__1209 ?_
  refine aw_sld (pc := 1210) hC1 hX dL_law__1210 ?_
  refine aw_callVI (pc := 1211) (As := [.int (xs (i + 1).toNatClampNeg)]) hC1 mb_X10_keep kw1636 (by decide) (c_X10_keep G C.2.1   q1.2 (xs (i + 1).toNatClampNeg)) (v0 (j := 12) (by decide)) rfl rfl rfl (Nat.le_of_ble_eq_true rfl) dL_law__1211 (fun q2 => ?_)
  refine aw_istore (pc := 1214) hC1 dL_law__1214 rfl (by decide) ?_
  refine aw_aload_n (pc := 1216) (i := 2) hC1 dL_law__1216 rfl rfl ?_
  refine aw_callVR (pc := 1217) (As := []) hC1 mb_X10_thrown kw1382 (by decide) (c_X10_thrown G C.2.1   q2.2 ) (v0 (j := 12) (by decide)) rfl rfl rfl (Nat.le_of_ble_eq_true rfl) dL_law__1217 (fun q3 => ?_)
  refine aw_iload (pc := 1220) hC1 dL_law__1220 rfl ?_
  refine aw_icmp_eq (pc := 1222) (tgt := 1227) hC1 dL_law__1222 (by decide) (fun _ => ?_) (fun _ => ?_)
  · skip
    refine aw_iload (pc := 1227) hC1 dL_law__1227 rfl ?_
    refine aw_if_ne (pc := 1229) (tgt := 1244) hC1 dL_law__1229 (by decide) (fun _ => ?_) (fun _ => ?_)
    · skip
      refine aw_aload_n (pc := 1232) (i := 3) hC1 dL_law__1232 rfl rfl ?_
      refine aw_iconst (pc := 1233) (v := 0) hC1 dL_law__1233 ic0 ?_
      refine aw_laload (pc := 1234) hC1 dL_law__1234 ?_
      refine aw_iload (pc := 1235) hC1 dL_law__1235 rfl ?_
      refine aw_i2l (pc := 1237) hC1 dL_law__1237 ?_
      refine aw_lcmp (pc := 1238) hC1 dL_law__1238 ?_
      refine aw_if_eq (pc := 1239) (tgt := 1244) hC1 dL_law__1239 (by decide) (fun _ => ?_) (fun _ => ?_)
      · skip
        refine aw_goto (pc := 1244) (tgt := 2965) hC1 dL_law__1244 (by decide) ?_
        exact aw_drop [5, 6] (hK i q2.2)
      · skip
        exact aw_none
    · skip
      refine aw_goto (pc := 1244) (tgt := 2965) hC1 dL_law__1244 (by decide) ?_
      exact aw_drop [5, 6] (hK i q2.2)
  · skip
    exact aw_none
theorem dL_law__1247 : decode cL_law_ 1247 = .ok (.aload_n 1, 1) := by decide +kernel
theorem dL_law__1248 : decode cL_law_ 1248 = .ok (.aload_n 0, 1) := by decide +kernel
theorem dL_law__1249 : decode cL_law_ 1249 = .ok (.iload 4, 2) := by decide +kernel
theorem dL_law__1251 : decode cL_law_ 1251 = .ok (.iconst 1, 1) := by decide +kernel
theorem dL_law__1252 : decode cL_law_ 1252 = .ok (.iadd, 1) := by decide +kernel
theorem dL_law__1253 : decode cL_law_ 1253 = .ok (.iaload, 1) := by decide +kernel
theorem dL_law__1254 : decode cL_law_ 1254 = .ok (.aload_n 3, 1) := by decide +kernel
theorem dL_law__1255 : decode cL_law_ 1255 = .ok (.invokestatic 195, 3) := by decide +kernel
theorem dL_law__1258 : decode cL_law_ 1258 = .ok (.istore 5, 2) := by decide +kernel
theorem dL_law__1260 : decode cL_law_ 1260 = .ok (.aload_n 2, 1) := by decide +kernel
theorem dL_law__1261 : decode cL_law_ 1261 = .ok (.aload_n 0, 1) := by decide +kernel
theorem dL_law__1262 : decode cL_law_ 1262 = .ok (.iload 4, 2) := by decide +kernel
theorem dL_law__1264 : decode cL_law_ 1264 = .ok (.iconst 1, 1) := by decide +kernel
theorem dL_law__1265 : decode cL_law_ 1265 = .ok (.iadd, 1) := by decide +kernel
theorem dL_law__1266 : decode cL_law_ 1266 = .ok (.iaload, 1) := by decide +kernel
theorem dL_law__1267 : decode cL_law_ 1267 = .ok (.invokevirtual 197, 3) := by decide +kernel
theorem dL_law__1270 : decode cL_law_ 1270 = .ok (.istore 6, 2) := by decide +kernel
theorem dL_law__1272 : decode cL_law_ 1272 = .ok (.aload_n 2, 1) := by decide +kernel
theorem dL_law__1273 : decode cL_law_ 1273 = .ok (.invokevirtual 151, 3) := by decide +kernel
theorem dL_law__1276 : decode cL_law_ 1276 = .ok (.iload 5, 2) := by decide +kernel
theorem dL_law__1278 : decode cL_law_ 1278 = .ok (.if_icmp .eq 5, 3) := by decide +kernel
theorem dL_law__1283 : decode cL_law_ 1283 = .ok (.iload 5, 2) := by decide +kernel
theorem dL_law__1285 : decode cL_law_ 1285 = .ok (.ifCond .ne 15, 3) := by decide +kernel
theorem dL_law__1288 : decode cL_law_ 1288 = .ok (.aload_n 3, 1) := by decide +kernel
theorem dL_law__1289 : decode cL_law_ 1289 = .ok (.iconst 0, 1) := by decide +kernel
theorem dL_law__1290 : decode cL_law_ 1290 = .ok (.laload, 1) := by decide +kernel
theorem dL_law__1291 : decode cL_law_ 1291 = .ok (.iload 6, 2) := by decide +kernel
theorem dL_law__1293 : decode cL_law_ 1293 = .ok (.i2l, 1) := by decide +kernel
theorem dL_law__1294 : decode cL_law_ 1294 = .ok (.lcmp, 1) := by decide +kernel
theorem dL_law__1295 : decode cL_law_ 1295 = .ok (.ifCond .eq 5, 3) := by decide +kernel
theorem dL_law__1300 : decode cL_law_ 1300 = .ok (.goto 1665, 3) := by decide +kernel
def lc_15 (xs : Nat → Int32) (n : Nat) (K : Int32 → Mem → Option Unit) (i : Int32) (μ : Mem) : Option Unit := ix (i + 1) n ((f_L_masons μ (xs (i + 1).toNatClampNeg)).bind fun (q1 : Int32 × Mem) => ix (i + 1) n ((f_X10_masons q1.2 (xs (i + 1).toNatClampNeg)).bind fun (q2 : Int32 × Mem) => (f_X10_thrown q2.2).bind fun (q3 : Int32) => if q3 = q1.1 then (if q1.1 = 0 then (ix 0 1 (if (lg_cmp ((q2.2 0 22 (Int32.toNatClampNeg 0)).toInt64) q2.1.toInt64) = 0 then (K i q2.2) else (none))) else (K i q2.2)) else (none)))
set_option maxHeartbeats 4000000 in
set_option maxRecDepth 100000 in
theorem hlc_15 {G : GG} {C : CX} {Q : Unit → State → Prop} {kc ks b n : Nat} {xs : Nat → Int32} {K : Int32 → Mem → Option Unit} (hl0 : C.2.1.stackTraces = false) (hC : CO G C "SaturdayKeepLaw" cL_law_ 7 62 kc ks (some .boolean)) (hC1 : CO G C "SaturdayKeepLaw" cL_law_ 7 62 (kc + 1) (ks + 6) (some .boolean)) (hX : SC G C b n xs) (hK : ∀ i μ, AW G C Q (kc + 1) (ks + 6) 7 μ 2965 [some (.ref b), some (.ref (gad G 0 0)), some (.ref (gad G 0 12)), some (.ref (gad G 0 22)), some (.int i), none, none] [] (K i μ)) (i : Int32) (μ : Mem) : AW G C Q kc ks 7 μ 1247 [some (.ref b), some (.ref (gad G 0 0)), some (.ref (gad G 0 12)), some (.ref (gad G 0 22)), some (.int i), none, none] [] (lc_15 xs n K i μ) := by
  have hK0 := fun i μ => aw_wide (Nat.le_succ kc) (Nat.le_add_right ks 6) (hK i μ)
  delta lc_15
  refine aw_aload_n (pc := 1247) (i := 1) hC dL_law__1247 rfl rfl ?_
  refine aw_aload_n (pc := 1248) (i := 0) hC dL_law__1248 rfl rfl ?_
  refine aw_iload (pc := 1249) hC dL_law__1249 rfl ?_
  refine aw_iconst (pc := 1251) (v := 1) hC dL_law__1251 ic1 ?_
  refine aw_iadd (pc := 1252) hC dL_law__1252 ?_
  refine aw_sld (pc := 1253) hC hX dL_law__1253 ?_
  refine aw_aload_n (pc := 1254) (i := 3) hC dL_law__1254 rfl rfl ?_
  refine aw_callSH (pc := 1255) (As := [.ref (gad G 0 0), .int (xs (i + 1).toNatClampNeg), .ref (gad G 0 22)]) hC hC1 mw_L_masons kw1031 (by decide) (c_L_masons G C.2.1 hl0 μ (xs (i + 1).toNatClampNeg)) rfl (Nat.le_of_ble_eq_true rfl) dL_law__1255 (fun q1 => ?_)
  refine aw_istore (pc := 1258) hC1 dL_law__1258 rfl (by decide) ?_
  refine aw_aload_n (pc := 1260) (i := 2) hC1 dL_law__1260 rfl rfl ?_
  refine aw_aload_n (pc := 1261) (i := 0) hC1 dL_law__1261 rfl rfl ?_
  refine aw_iload (pc := 1262) hC1 dL_law__1262 rfl ?_
  refine aw_iconst (pc := 1264) (v := 1) hC1 dL_law__1264 ic1 ?_
  refine aw_iadd (pc := 1265) hC1 dL_law__1265 ?_
  refine aw_sld (pc := 1266) hC1 hX dL_law__1266 ?_
  refine aw_callVI (pc := 1267) (As := [.int (xs (i + 1).toNatClampNeg)]) hC1 mb_X10_masons kw1640 (by decide) (c_X10_masons G C.2.1   q1.2 (xs (i + 1).toNatClampNeg)) (v0 (j := 12) (by decide)) rfl rfl rfl (Nat.le_of_ble_eq_true rfl) dL_law__1267 (fun q2 => ?_)
  refine aw_istore (pc := 1270) hC1 dL_law__1270 rfl (by decide) ?_
  refine aw_aload_n (pc := 1272) (i := 2) hC1 dL_law__1272 rfl rfl ?_
  refine aw_callVR (pc := 1273) (As := []) hC1 mb_X10_thrown kw1382 (by decide) (c_X10_thrown G C.2.1   q2.2 ) (v0 (j := 12) (by decide)) rfl rfl rfl (Nat.le_of_ble_eq_true rfl) dL_law__1273 (fun q3 => ?_)
  refine aw_iload (pc := 1276) hC1 dL_law__1276 rfl ?_
  refine aw_icmp_eq (pc := 1278) (tgt := 1283) hC1 dL_law__1278 (by decide) (fun _ => ?_) (fun _ => ?_)
  · skip
    refine aw_iload (pc := 1283) hC1 dL_law__1283 rfl ?_
    refine aw_if_ne (pc := 1285) (tgt := 1300) hC1 dL_law__1285 (by decide) (fun _ => ?_) (fun _ => ?_)
    · skip
      refine aw_aload_n (pc := 1288) (i := 3) hC1 dL_law__1288 rfl rfl ?_
      refine aw_iconst (pc := 1289) (v := 0) hC1 dL_law__1289 ic0 ?_
      refine aw_laload (pc := 1290) hC1 dL_law__1290 ?_
      refine aw_iload (pc := 1291) hC1 dL_law__1291 rfl ?_
      refine aw_i2l (pc := 1293) hC1 dL_law__1293 ?_
      refine aw_lcmp (pc := 1294) hC1 dL_law__1294 ?_
      refine aw_if_eq (pc := 1295) (tgt := 1300) hC1 dL_law__1295 (by decide) (fun _ => ?_) (fun _ => ?_)
      · skip
        refine aw_goto (pc := 1300) (tgt := 2965) hC1 dL_law__1300 (by decide) ?_
        exact aw_drop [5, 6] (hK i q2.2)
      · skip
        exact aw_none
    · skip
      refine aw_goto (pc := 1300) (tgt := 2965) hC1 dL_law__1300 (by decide) ?_
      exact aw_drop [5, 6] (hK i q2.2)
  · skip
    exact aw_none
theorem dL_law__1303 : decode cL_law_ 1303 = .ok (.aload_n 1, 1) := by decide +kernel
theorem dL_law__1304 : decode cL_law_ 1304 = .ok (.aload_n 0, 1) := by decide +kernel
theorem dL_law__1305 : decode cL_law_ 1305 = .ok (.iload 4, 2) := by decide +kernel
theorem dL_law__1307 : decode cL_law_ 1307 = .ok (.iconst 1, 1) := by decide +kernel
theorem dL_law__1308 : decode cL_law_ 1308 = .ok (.iadd, 1) := by decide +kernel
theorem dL_law__1309 : decode cL_law_ 1309 = .ok (.iaload, 1) := by decide +kernel
theorem dL_law__1310 : decode cL_law_ 1310 = .ok (.aload_n 3, 1) := by decide +kernel
theorem dL_law__1311 : decode cL_law_ 1311 = .ok (.invokestatic 198, 3) := by decide +kernel
theorem dL_law__1314 : decode cL_law_ 1314 = .ok (.istore 5, 2) := by decide +kernel
theorem dL_law__1316 : decode cL_law_ 1316 = .ok (.aload_n 2, 1) := by decide +kernel
theorem dL_law__1317 : decode cL_law_ 1317 = .ok (.aload_n 0, 1) := by decide +kernel
theorem dL_law__1318 : decode cL_law_ 1318 = .ok (.iload 4, 2) := by decide +kernel
theorem dL_law__1320 : decode cL_law_ 1320 = .ok (.iconst 1, 1) := by decide +kernel
theorem dL_law__1321 : decode cL_law_ 1321 = .ok (.iadd, 1) := by decide +kernel
theorem dL_law__1322 : decode cL_law_ 1322 = .ok (.iaload, 1) := by decide +kernel
theorem dL_law__1323 : decode cL_law_ 1323 = .ok (.invokevirtual 200, 3) := by decide +kernel
theorem dL_law__1326 : decode cL_law_ 1326 = .ok (.istore 6, 2) := by decide +kernel
theorem dL_law__1328 : decode cL_law_ 1328 = .ok (.aload_n 2, 1) := by decide +kernel
theorem dL_law__1329 : decode cL_law_ 1329 = .ok (.invokevirtual 151, 3) := by decide +kernel
theorem dL_law__1332 : decode cL_law_ 1332 = .ok (.iload 5, 2) := by decide +kernel
theorem dL_law__1334 : decode cL_law_ 1334 = .ok (.if_icmp .eq 5, 3) := by decide +kernel
theorem dL_law__1339 : decode cL_law_ 1339 = .ok (.iload 5, 2) := by decide +kernel
theorem dL_law__1341 : decode cL_law_ 1341 = .ok (.ifCond .ne 15, 3) := by decide +kernel
theorem dL_law__1344 : decode cL_law_ 1344 = .ok (.aload_n 3, 1) := by decide +kernel
theorem dL_law__1345 : decode cL_law_ 1345 = .ok (.iconst 0, 1) := by decide +kernel
theorem dL_law__1346 : decode cL_law_ 1346 = .ok (.laload, 1) := by decide +kernel
theorem dL_law__1347 : decode cL_law_ 1347 = .ok (.iload 6, 2) := by decide +kernel
theorem dL_law__1349 : decode cL_law_ 1349 = .ok (.i2l, 1) := by decide +kernel
theorem dL_law__1350 : decode cL_law_ 1350 = .ok (.lcmp, 1) := by decide +kernel
theorem dL_law__1351 : decode cL_law_ 1351 = .ok (.ifCond .eq 5, 3) := by decide +kernel
theorem dL_law__1356 : decode cL_law_ 1356 = .ok (.goto 1609, 3) := by decide +kernel
def lc_16 (xs : Nat → Int32) (n : Nat) (K : Int32 → Mem → Option Unit) (i : Int32) (μ : Mem) : Option Unit := ix (i + 1) n ((f_L_buy μ (xs (i + 1).toNatClampNeg)).bind fun (q1 : Int32 × Mem) => ix (i + 1) n ((f_X10_buy q1.2 (xs (i + 1).toNatClampNeg)).bind fun (q2 : Int32 × Mem) => (f_X10_thrown q2.2).bind fun (q3 : Int32) => if q3 = q1.1 then (if q1.1 = 0 then (ix 0 1 (if (lg_cmp ((q2.2 0 22 (Int32.toNatClampNeg 0)).toInt64) q2.1.toInt64) = 0 then (K i q2.2) else (none))) else (K i q2.2)) else (none)))
set_option maxHeartbeats 4000000 in
set_option maxRecDepth 100000 in
theorem hlc_16 {G : GG} {C : CX} {Q : Unit → State → Prop} {kc ks b n : Nat} {xs : Nat → Int32} {K : Int32 → Mem → Option Unit} (hl0 : C.2.1.stackTraces = false) (hC : CO G C "SaturdayKeepLaw" cL_law_ 7 62 kc ks (some .boolean)) (hC1 : CO G C "SaturdayKeepLaw" cL_law_ 7 62 (kc + 1) (ks + 6) (some .boolean)) (hX : SC G C b n xs) (hK : ∀ i μ, AW G C Q (kc + 1) (ks + 6) 7 μ 2965 [some (.ref b), some (.ref (gad G 0 0)), some (.ref (gad G 0 12)), some (.ref (gad G 0 22)), some (.int i), none, none] [] (K i μ)) (i : Int32) (μ : Mem) : AW G C Q kc ks 7 μ 1303 [some (.ref b), some (.ref (gad G 0 0)), some (.ref (gad G 0 12)), some (.ref (gad G 0 22)), some (.int i), none, none] [] (lc_16 xs n K i μ) := by
  have hK0 := fun i μ => aw_wide (Nat.le_succ kc) (Nat.le_add_right ks 6) (hK i μ)
  delta lc_16
  refine aw_aload_n (pc := 1303) (i := 1) hC dL_law__1303 rfl rfl ?_
  refine aw_aload_n (pc := 1304) (i := 0) hC dL_law__1304 rfl rfl ?_
  refine aw_iload (pc := 1305) hC dL_law__1305 rfl ?_
  refine aw_iconst (pc := 1307) (v := 1) hC dL_law__1307 ic1 ?_
  refine aw_iadd (pc := 1308) hC dL_law__1308 ?_
  refine aw_sld (pc := 1309) hC hX dL_law__1309 ?_
  refine aw_aload_n (pc := 1310) (i := 3) hC dL_law__1310 rfl rfl ?_
  refine aw_callSH (pc := 1311) (As := [.ref (gad G 0 0), .int (xs (i + 1).toNatClampNeg), .ref (gad G 0 22)]) hC hC1 mw_L_buy kw1039 (by decide) (c_L_buy G C.2.1 hl0 μ (xs (i + 1).toNatClampNeg)) rfl (Nat.le_of_ble_eq_true rfl) dL_law__1311 (fun q1 => ?_)
  refine aw_istore (pc := 1314) hC1 dL_law__1314 rfl (by decide) ?_
  refine aw_aload_n (pc := 1316) (i := 2) hC1 dL_law__1316 rfl rfl ?_
  refine aw_aload_n (pc := 1317) (i := 0) hC1 dL_law__1317 rfl rfl ?_
  refine aw_iload (pc := 1318) hC1 dL_law__1318 rfl ?_
  refine aw_iconst (pc := 1320) (v := 1) hC1 dL_law__1320 ic1 ?_
  refine aw_iadd (pc := 1321) hC1 dL_law__1321 ?_
  refine aw_sld (pc := 1322) hC1 hX dL_law__1322 ?_
  refine aw_callVI (pc := 1323) (As := [.int (xs (i + 1).toNatClampNeg)]) hC1 mb_X10_buy kw1644 (by decide) (c_X10_buy G C.2.1   q1.2 (xs (i + 1).toNatClampNeg)) (v0 (j := 12) (by decide)) rfl rfl rfl (Nat.le_of_ble_eq_true rfl) dL_law__1323 (fun q2 => ?_)
  refine aw_istore (pc := 1326) hC1 dL_law__1326 rfl (by decide) ?_
  refine aw_aload_n (pc := 1328) (i := 2) hC1 dL_law__1328 rfl rfl ?_
  refine aw_callVR (pc := 1329) (As := []) hC1 mb_X10_thrown kw1382 (by decide) (c_X10_thrown G C.2.1   q2.2 ) (v0 (j := 12) (by decide)) rfl rfl rfl (Nat.le_of_ble_eq_true rfl) dL_law__1329 (fun q3 => ?_)
  refine aw_iload (pc := 1332) hC1 dL_law__1332 rfl ?_
  refine aw_icmp_eq (pc := 1334) (tgt := 1339) hC1 dL_law__1334 (by decide) (fun _ => ?_) (fun _ => ?_)
  · skip
    refine aw_iload (pc := 1339) hC1 dL_law__1339 rfl ?_
    refine aw_if_ne (pc := 1341) (tgt := 1356) hC1 dL_law__1341 (by decide) (fun _ => ?_) (fun _ => ?_)
    · skip
      refine aw_aload_n (pc := 1344) (i := 3) hC1 dL_law__1344 rfl rfl ?_
      refine aw_iconst (pc := 1345) (v := 0) hC1 dL_law__1345 ic0 ?_
      refine aw_laload (pc := 1346) hC1 dL_law__1346 ?_
      refine aw_iload (pc := 1347) hC1 dL_law__1347 rfl ?_
      refine aw_i2l (pc := 1349) hC1 dL_law__1349 ?_
      refine aw_lcmp (pc := 1350) hC1 dL_law__1350 ?_
      refine aw_if_eq (pc := 1351) (tgt := 1356) hC1 dL_law__1351 (by decide) (fun _ => ?_) (fun _ => ?_)
      · skip
        refine aw_goto (pc := 1356) (tgt := 2965) hC1 dL_law__1356 (by decide) ?_
        exact aw_drop [5, 6] (hK i q2.2)
      · skip
        exact aw_none
    · skip
      refine aw_goto (pc := 1356) (tgt := 2965) hC1 dL_law__1356 (by decide) ?_
      exact aw_drop [5, 6] (hK i q2.2)
  · skip
    exact aw_none
theorem dL_law__1359 : decode cL_law_ 1359 = .ok (.aload_n 1, 1) := by decide +kernel
theorem dL_law__1360 : decode cL_law_ 1360 = .ok (.aload_n 0, 1) := by decide +kernel
theorem dL_law__1361 : decode cL_law_ 1361 = .ok (.iload 4, 2) := by decide +kernel
theorem dL_law__1363 : decode cL_law_ 1363 = .ok (.iconst 1, 1) := by decide +kernel
theorem dL_law__1364 : decode cL_law_ 1364 = .ok (.iadd, 1) := by decide +kernel
theorem dL_law__1365 : decode cL_law_ 1365 = .ok (.iaload, 1) := by decide +kernel
theorem dL_law__1366 : decode cL_law_ 1366 = .ok (.aload_n 3, 1) := by decide +kernel
theorem dL_law__1367 : decode cL_law_ 1367 = .ok (.invokestatic 201, 3) := by decide +kernel
theorem dL_law__1370 : decode cL_law_ 1370 = .ok (.istore 5, 2) := by decide +kernel
theorem dL_law__1372 : decode cL_law_ 1372 = .ok (.aload_n 2, 1) := by decide +kernel
theorem dL_law__1373 : decode cL_law_ 1373 = .ok (.aload_n 0, 1) := by decide +kernel
theorem dL_law__1374 : decode cL_law_ 1374 = .ok (.iload 4, 2) := by decide +kernel
theorem dL_law__1376 : decode cL_law_ 1376 = .ok (.iconst 1, 1) := by decide +kernel
theorem dL_law__1377 : decode cL_law_ 1377 = .ok (.iadd, 1) := by decide +kernel
theorem dL_law__1378 : decode cL_law_ 1378 = .ok (.iaload, 1) := by decide +kernel
theorem dL_law__1379 : decode cL_law_ 1379 = .ok (.invokevirtual 203, 3) := by decide +kernel
theorem dL_law__1382 : decode cL_law_ 1382 = .ok (.istore 6, 2) := by decide +kernel
theorem dL_law__1384 : decode cL_law_ 1384 = .ok (.aload_n 2, 1) := by decide +kernel
theorem dL_law__1385 : decode cL_law_ 1385 = .ok (.invokevirtual 151, 3) := by decide +kernel
theorem dL_law__1388 : decode cL_law_ 1388 = .ok (.iload 5, 2) := by decide +kernel
theorem dL_law__1390 : decode cL_law_ 1390 = .ok (.if_icmp .eq 5, 3) := by decide +kernel
theorem dL_law__1395 : decode cL_law_ 1395 = .ok (.iload 5, 2) := by decide +kernel
theorem dL_law__1397 : decode cL_law_ 1397 = .ok (.ifCond .ne 15, 3) := by decide +kernel
theorem dL_law__1400 : decode cL_law_ 1400 = .ok (.aload_n 3, 1) := by decide +kernel
theorem dL_law__1401 : decode cL_law_ 1401 = .ok (.iconst 0, 1) := by decide +kernel
theorem dL_law__1402 : decode cL_law_ 1402 = .ok (.laload, 1) := by decide +kernel
theorem dL_law__1403 : decode cL_law_ 1403 = .ok (.iload 6, 2) := by decide +kernel
theorem dL_law__1405 : decode cL_law_ 1405 = .ok (.i2l, 1) := by decide +kernel
theorem dL_law__1406 : decode cL_law_ 1406 = .ok (.lcmp, 1) := by decide +kernel
theorem dL_law__1407 : decode cL_law_ 1407 = .ok (.ifCond .eq 5, 3) := by decide +kernel
theorem dL_law__1412 : decode cL_law_ 1412 = .ok (.goto 1553, 3) := by decide +kernel
def lc_17 (xs : Nat → Int32) (n : Nat) (K : Int32 → Mem → Option Unit) (i : Int32) (μ : Mem) : Option Unit := ix (i + 1) n ((f_L_calm μ (xs (i + 1).toNatClampNeg)).bind fun (q1 : Int32 × Mem) => ix (i + 1) n ((f_X10_calm q1.2 (xs (i + 1).toNatClampNeg)).bind fun (q2 : Int32 × Mem) => (f_X10_thrown q2.2).bind fun (q3 : Int32) => if q3 = q1.1 then (if q1.1 = 0 then (ix 0 1 (if (lg_cmp ((q2.2 0 22 (Int32.toNatClampNeg 0)).toInt64) q2.1.toInt64) = 0 then (K i q2.2) else (none))) else (K i q2.2)) else (none)))
set_option maxHeartbeats 4000000 in
set_option maxRecDepth 100000 in
theorem hlc_17 {G : GG} {C : CX} {Q : Unit → State → Prop} {kc ks b n : Nat} {xs : Nat → Int32} {K : Int32 → Mem → Option Unit} (hl0 : C.2.1.stackTraces = false) (hC : CO G C "SaturdayKeepLaw" cL_law_ 7 62 kc ks (some .boolean)) (hC1 : CO G C "SaturdayKeepLaw" cL_law_ 7 62 (kc + 1) (ks + 6) (some .boolean)) (hX : SC G C b n xs) (hK : ∀ i μ, AW G C Q (kc + 1) (ks + 6) 7 μ 2965 [some (.ref b), some (.ref (gad G 0 0)), some (.ref (gad G 0 12)), some (.ref (gad G 0 22)), some (.int i), none, none] [] (K i μ)) (i : Int32) (μ : Mem) : AW G C Q kc ks 7 μ 1359 [some (.ref b), some (.ref (gad G 0 0)), some (.ref (gad G 0 12)), some (.ref (gad G 0 22)), some (.int i), none, none] [] (lc_17 xs n K i μ) := by
  have hK0 := fun i μ => aw_wide (Nat.le_succ kc) (Nat.le_add_right ks 6) (hK i μ)
  delta lc_17
  refine aw_aload_n (pc := 1359) (i := 1) hC dL_law__1359 rfl rfl ?_
  refine aw_aload_n (pc := 1360) (i := 0) hC dL_law__1360 rfl rfl ?_
  refine aw_iload (pc := 1361) hC dL_law__1361 rfl ?_
  refine aw_iconst (pc := 1363) (v := 1) hC dL_law__1363 ic1 ?_
  refine aw_iadd (pc := 1364) hC dL_law__1364 ?_
  refine aw_sld (pc := 1365) hC hX dL_law__1365 ?_
  refine aw_aload_n (pc := 1366) (i := 3) hC dL_law__1366 rfl rfl ?_
  refine aw_callSH (pc := 1367) (As := [.ref (gad G 0 0), .int (xs (i + 1).toNatClampNeg), .ref (gad G 0 22)]) hC hC1 mw_L_calm kw1047 (by decide) (c_L_calm G C.2.1 hl0 μ (xs (i + 1).toNatClampNeg)) rfl (Nat.le_of_ble_eq_true rfl) dL_law__1367 (fun q1 => ?_)
  refine aw_istore (pc := 1370) hC1 dL_law__1370 rfl (by decide) ?_
  refine aw_aload_n (pc := 1372) (i := 2) hC1 dL_law__1372 rfl rfl ?_
  refine aw_aload_n (pc := 1373) (i := 0) hC1 dL_law__1373 rfl rfl ?_
  refine aw_iload (pc := 1374) hC1 dL_law__1374 rfl ?_
  refine aw_iconst (pc := 1376) (v := 1) hC1 dL_law__1376 ic1 ?_
  refine aw_iadd (pc := 1377) hC1 dL_law__1377 ?_
  refine aw_sld (pc := 1378) hC1 hX dL_law__1378 ?_
  refine aw_callVI (pc := 1379) (As := [.int (xs (i + 1).toNatClampNeg)]) hC1 mb_X10_calm kw1651 (by decide) (c_X10_calm G C.2.1   q1.2 (xs (i + 1).toNatClampNeg)) (v0 (j := 12) (by decide)) rfl rfl rfl (Nat.le_of_ble_eq_true rfl) dL_law__1379 (fun q2 => ?_)
  refine aw_istore (pc := 1382) hC1 dL_law__1382 rfl (by decide) ?_
  refine aw_aload_n (pc := 1384) (i := 2) hC1 dL_law__1384 rfl rfl ?_
  refine aw_callVR (pc := 1385) (As := []) hC1 mb_X10_thrown kw1382 (by decide) (c_X10_thrown G C.2.1   q2.2 ) (v0 (j := 12) (by decide)) rfl rfl rfl (Nat.le_of_ble_eq_true rfl) dL_law__1385 (fun q3 => ?_)
  refine aw_iload (pc := 1388) hC1 dL_law__1388 rfl ?_
  refine aw_icmp_eq (pc := 1390) (tgt := 1395) hC1 dL_law__1390 (by decide) (fun _ => ?_) (fun _ => ?_)
  · skip
    refine aw_iload (pc := 1395) hC1 dL_law__1395 rfl ?_
    refine aw_if_ne (pc := 1397) (tgt := 1412) hC1 dL_law__1397 (by decide) (fun _ => ?_) (fun _ => ?_)
    · skip
      refine aw_aload_n (pc := 1400) (i := 3) hC1 dL_law__1400 rfl rfl ?_
      refine aw_iconst (pc := 1401) (v := 0) hC1 dL_law__1401 ic0 ?_
      refine aw_laload (pc := 1402) hC1 dL_law__1402 ?_
      refine aw_iload (pc := 1403) hC1 dL_law__1403 rfl ?_
      refine aw_i2l (pc := 1405) hC1 dL_law__1405 ?_
      refine aw_lcmp (pc := 1406) hC1 dL_law__1406 ?_
      refine aw_if_eq (pc := 1407) (tgt := 1412) hC1 dL_law__1407 (by decide) (fun _ => ?_) (fun _ => ?_)
      · skip
        refine aw_goto (pc := 1412) (tgt := 2965) hC1 dL_law__1412 (by decide) ?_
        exact aw_drop [5, 6] (hK i q2.2)
      · skip
        exact aw_none
    · skip
      refine aw_goto (pc := 1412) (tgt := 2965) hC1 dL_law__1412 (by decide) ?_
      exact aw_drop [5, 6] (hK i q2.2)
  · skip
    exact aw_none
theorem dL_law__1415 : decode cL_law_ 1415 = .ok (.aload_n 1, 1) := by decide +kernel
theorem dL_law__1416 : decode cL_law_ 1416 = .ok (.aload_n 0, 1) := by decide +kernel
theorem dL_law__1417 : decode cL_law_ 1417 = .ok (.iload 4, 2) := by decide +kernel
theorem dL_law__1419 : decode cL_law_ 1419 = .ok (.iconst 1, 1) := by decide +kernel
theorem dL_law__1420 : decode cL_law_ 1420 = .ok (.iadd, 1) := by decide +kernel
theorem dL_law__1421 : decode cL_law_ 1421 = .ok (.iaload, 1) := by decide +kernel
theorem dL_law__1422 : decode cL_law_ 1422 = .ok (.aload_n 3, 1) := by decide +kernel
theorem dL_law__1423 : decode cL_law_ 1423 = .ok (.invokestatic 204, 3) := by decide +kernel
theorem dL_law__1426 : decode cL_law_ 1426 = .ok (.istore 5, 2) := by decide +kernel
theorem dL_law__1428 : decode cL_law_ 1428 = .ok (.aload_n 2, 1) := by decide +kernel
theorem dL_law__1429 : decode cL_law_ 1429 = .ok (.aload_n 0, 1) := by decide +kernel
theorem dL_law__1430 : decode cL_law_ 1430 = .ok (.iload 4, 2) := by decide +kernel
theorem dL_law__1432 : decode cL_law_ 1432 = .ok (.iconst 1, 1) := by decide +kernel
theorem dL_law__1433 : decode cL_law_ 1433 = .ok (.iadd, 1) := by decide +kernel
theorem dL_law__1434 : decode cL_law_ 1434 = .ok (.iaload, 1) := by decide +kernel
theorem dL_law__1435 : decode cL_law_ 1435 = .ok (.invokevirtual 206, 3) := by decide +kernel
theorem dL_law__1438 : decode cL_law_ 1438 = .ok (.istore 6, 2) := by decide +kernel
theorem dL_law__1440 : decode cL_law_ 1440 = .ok (.aload_n 2, 1) := by decide +kernel
theorem dL_law__1441 : decode cL_law_ 1441 = .ok (.invokevirtual 151, 3) := by decide +kernel
theorem dL_law__1444 : decode cL_law_ 1444 = .ok (.iload 5, 2) := by decide +kernel
theorem dL_law__1446 : decode cL_law_ 1446 = .ok (.if_icmp .eq 5, 3) := by decide +kernel
theorem dL_law__1451 : decode cL_law_ 1451 = .ok (.iload 5, 2) := by decide +kernel
theorem dL_law__1453 : decode cL_law_ 1453 = .ok (.ifCond .ne 15, 3) := by decide +kernel
theorem dL_law__1456 : decode cL_law_ 1456 = .ok (.aload_n 3, 1) := by decide +kernel
theorem dL_law__1457 : decode cL_law_ 1457 = .ok (.iconst 0, 1) := by decide +kernel
theorem dL_law__1458 : decode cL_law_ 1458 = .ok (.laload, 1) := by decide +kernel
theorem dL_law__1459 : decode cL_law_ 1459 = .ok (.iload 6, 2) := by decide +kernel
theorem dL_law__1461 : decode cL_law_ 1461 = .ok (.i2l, 1) := by decide +kernel
theorem dL_law__1462 : decode cL_law_ 1462 = .ok (.lcmp, 1) := by decide +kernel
theorem dL_law__1463 : decode cL_law_ 1463 = .ok (.ifCond .eq 5, 3) := by decide +kernel
theorem dL_law__1468 : decode cL_law_ 1468 = .ok (.goto 1497, 3) := by decide +kernel
def lc_18 (xs : Nat → Int32) (n : Nat) (K : Int32 → Mem → Option Unit) (i : Int32) (μ : Mem) : Option Unit := ix (i + 1) n ((f_L_days μ (xs (i + 1).toNatClampNeg)).bind fun (q1 : Int32 × Mem) => ix (i + 1) n ((f_X10_days q1.2 (xs (i + 1).toNatClampNeg)).bind fun (q2 : Int32 × Mem) => (f_X10_thrown q2.2).bind fun (q3 : Int32) => if q3 = q1.1 then (if q1.1 = 0 then (ix 0 1 (if (lg_cmp ((q2.2 0 22 (Int32.toNatClampNeg 0)).toInt64) q2.1.toInt64) = 0 then (K i q2.2) else (none))) else (K i q2.2)) else (none)))
set_option maxHeartbeats 4000000 in
set_option maxRecDepth 100000 in
theorem hlc_18 {G : GG} {C : CX} {Q : Unit → State → Prop} {kc ks b n : Nat} {xs : Nat → Int32} {K : Int32 → Mem → Option Unit} (hl0 : C.2.1.stackTraces = false) (hC : CO G C "SaturdayKeepLaw" cL_law_ 7 62 kc ks (some .boolean)) (hC1 : CO G C "SaturdayKeepLaw" cL_law_ 7 62 (kc + 1) (ks + 6) (some .boolean)) (hX : SC G C b n xs) (hK : ∀ i μ, AW G C Q (kc + 1) (ks + 6) 7 μ 2965 [some (.ref b), some (.ref (gad G 0 0)), some (.ref (gad G 0 12)), some (.ref (gad G 0 22)), some (.int i), none, none] [] (K i μ)) (i : Int32) (μ : Mem) : AW G C Q kc ks 7 μ 1415 [some (.ref b), some (.ref (gad G 0 0)), some (.ref (gad G 0 12)), some (.ref (gad G 0 22)), some (.int i), none, none] [] (lc_18 xs n K i μ) := by
  have hK0 := fun i μ => aw_wide (Nat.le_succ kc) (Nat.le_add_right ks 6) (hK i μ)
  delta lc_18
  refine aw_aload_n (pc := 1415) (i := 1) hC dL_law__1415 rfl rfl ?_
  refine aw_aload_n (pc := 1416) (i := 0) hC dL_law__1416 rfl rfl ?_
  refine aw_iload (pc := 1417) hC dL_law__1417 rfl ?_
  refine aw_iconst (pc := 1419) (v := 1) hC dL_law__1419 ic1 ?_
  refine aw_iadd (pc := 1420) hC dL_law__1420 ?_
  refine aw_sld (pc := 1421) hC hX dL_law__1421 ?_
  refine aw_aload_n (pc := 1422) (i := 3) hC dL_law__1422 rfl rfl ?_
  refine aw_callSH (pc := 1423) (As := [.ref (gad G 0 0), .int (xs (i + 1).toNatClampNeg), .ref (gad G 0 22)]) hC hC1 mw_L_days kw1060 (by decide) (c_L_days G C.2.1 hl0 μ (xs (i + 1).toNatClampNeg)) rfl (Nat.le_of_ble_eq_true rfl) dL_law__1423 (fun q1 => ?_)
  refine aw_istore (pc := 1426) hC1 dL_law__1426 rfl (by decide) ?_
  refine aw_aload_n (pc := 1428) (i := 2) hC1 dL_law__1428 rfl rfl ?_
  refine aw_aload_n (pc := 1429) (i := 0) hC1 dL_law__1429 rfl rfl ?_
  refine aw_iload (pc := 1430) hC1 dL_law__1430 rfl ?_
  refine aw_iconst (pc := 1432) (v := 1) hC1 dL_law__1432 ic1 ?_
  refine aw_iadd (pc := 1433) hC1 dL_law__1433 ?_
  refine aw_sld (pc := 1434) hC1 hX dL_law__1434 ?_
  refine aw_callVI (pc := 1435) (As := [.int (xs (i + 1).toNatClampNeg)]) hC1 mb_X10_days kw1655 (by decide) (c_X10_days G C.2.1   q1.2 (xs (i + 1).toNatClampNeg)) (v0 (j := 12) (by decide)) rfl rfl rfl (Nat.le_of_ble_eq_true rfl) dL_law__1435 (fun q2 => ?_)
  refine aw_istore (pc := 1438) hC1 dL_law__1438 rfl (by decide) ?_
  refine aw_aload_n (pc := 1440) (i := 2) hC1 dL_law__1440 rfl rfl ?_
  refine aw_callVR (pc := 1441) (As := []) hC1 mb_X10_thrown kw1382 (by decide) (c_X10_thrown G C.2.1   q2.2 ) (v0 (j := 12) (by decide)) rfl rfl rfl (Nat.le_of_ble_eq_true rfl) dL_law__1441 (fun q3 => ?_)
  refine aw_iload (pc := 1444) hC1 dL_law__1444 rfl ?_
  refine aw_icmp_eq (pc := 1446) (tgt := 1451) hC1 dL_law__1446 (by decide) (fun _ => ?_) (fun _ => ?_)
  · skip
    refine aw_iload (pc := 1451) hC1 dL_law__1451 rfl ?_
    refine aw_if_ne (pc := 1453) (tgt := 1468) hC1 dL_law__1453 (by decide) (fun _ => ?_) (fun _ => ?_)
    · skip
      refine aw_aload_n (pc := 1456) (i := 3) hC1 dL_law__1456 rfl rfl ?_
      refine aw_iconst (pc := 1457) (v := 0) hC1 dL_law__1457 ic0 ?_
      refine aw_laload (pc := 1458) hC1 dL_law__1458 ?_
      refine aw_iload (pc := 1459) hC1 dL_law__1459 rfl ?_
      refine aw_i2l (pc := 1461) hC1 dL_law__1461 ?_
      refine aw_lcmp (pc := 1462) hC1 dL_law__1462 ?_
      refine aw_if_eq (pc := 1463) (tgt := 1468) hC1 dL_law__1463 (by decide) (fun _ => ?_) (fun _ => ?_)
      · skip
        refine aw_goto (pc := 1468) (tgt := 2965) hC1 dL_law__1468 (by decide) ?_
        exact aw_drop [5, 6] (hK i q2.2)
      · skip
        exact aw_none
    · skip
      refine aw_goto (pc := 1468) (tgt := 2965) hC1 dL_law__1468 (by decide) ?_
      exact aw_drop [5, 6] (hK i q2.2)
  · skip
    exact aw_none
theorem dL_law__1471 : decode cL_law_ 1471 = .ok (.aload_n 1, 1) := by decide +kernel
theorem dL_law__1472 : decode cL_law_ 1472 = .ok (.aload_n 0, 1) := by decide +kernel
theorem dL_law__1473 : decode cL_law_ 1473 = .ok (.iload 4, 2) := by decide +kernel
theorem dL_law__1475 : decode cL_law_ 1475 = .ok (.iconst 1, 1) := by decide +kernel
theorem dL_law__1476 : decode cL_law_ 1476 = .ok (.iadd, 1) := by decide +kernel
theorem dL_law__1477 : decode cL_law_ 1477 = .ok (.iaload, 1) := by decide +kernel
theorem dL_law__1478 : decode cL_law_ 1478 = .ok (.aload_n 0, 1) := by decide +kernel
theorem dL_law__1479 : decode cL_law_ 1479 = .ok (.iload 4, 2) := by decide +kernel
theorem dL_law__1481 : decode cL_law_ 1481 = .ok (.iconst 2, 1) := by decide +kernel
theorem dL_law__1482 : decode cL_law_ 1482 = .ok (.iadd, 1) := by decide +kernel
theorem dL_law__1483 : decode cL_law_ 1483 = .ok (.iaload, 1) := by decide +kernel
theorem dL_law__1484 : decode cL_law_ 1484 = .ok (.aload_n 0, 1) := by decide +kernel
theorem dL_law__1485 : decode cL_law_ 1485 = .ok (.iload 4, 2) := by decide +kernel
theorem dL_law__1487 : decode cL_law_ 1487 = .ok (.iconst 3, 1) := by decide +kernel
theorem dL_law__1488 : decode cL_law_ 1488 = .ok (.iadd, 1) := by decide +kernel
theorem dL_law__1489 : decode cL_law_ 1489 = .ok (.iaload, 1) := by decide +kernel
theorem dL_law__1490 : decode cL_law_ 1490 = .ok (.aload_n 3, 1) := by decide +kernel
theorem dL_law__1491 : decode cL_law_ 1491 = .ok (.invokestatic 207, 3) := by decide +kernel
theorem dL_law__1494 : decode cL_law_ 1494 = .ok (.istore 5, 2) := by decide +kernel
theorem dL_law__1496 : decode cL_law_ 1496 = .ok (.aload_n 2, 1) := by decide +kernel
theorem dL_law__1497 : decode cL_law_ 1497 = .ok (.aload_n 0, 1) := by decide +kernel
theorem dL_law__1498 : decode cL_law_ 1498 = .ok (.iload 4, 2) := by decide +kernel
theorem dL_law__1500 : decode cL_law_ 1500 = .ok (.iconst 1, 1) := by decide +kernel
theorem dL_law__1501 : decode cL_law_ 1501 = .ok (.iadd, 1) := by decide +kernel
theorem dL_law__1502 : decode cL_law_ 1502 = .ok (.iaload, 1) := by decide +kernel
theorem dL_law__1503 : decode cL_law_ 1503 = .ok (.aload_n 0, 1) := by decide +kernel
theorem dL_law__1504 : decode cL_law_ 1504 = .ok (.iload 4, 2) := by decide +kernel
theorem dL_law__1506 : decode cL_law_ 1506 = .ok (.iconst 2, 1) := by decide +kernel
theorem dL_law__1507 : decode cL_law_ 1507 = .ok (.iadd, 1) := by decide +kernel
theorem dL_law__1508 : decode cL_law_ 1508 = .ok (.iaload, 1) := by decide +kernel
theorem dL_law__1509 : decode cL_law_ 1509 = .ok (.aload_n 0, 1) := by decide +kernel
theorem dL_law__1510 : decode cL_law_ 1510 = .ok (.iload 4, 2) := by decide +kernel
theorem dL_law__1512 : decode cL_law_ 1512 = .ok (.iconst 3, 1) := by decide +kernel
theorem dL_law__1513 : decode cL_law_ 1513 = .ok (.iadd, 1) := by decide +kernel
theorem dL_law__1514 : decode cL_law_ 1514 = .ok (.iaload, 1) := by decide +kernel
theorem dL_law__1515 : decode cL_law_ 1515 = .ok (.invokevirtual 210, 3) := by decide +kernel
theorem dL_law__1518 : decode cL_law_ 1518 = .ok (.istore 6, 2) := by decide +kernel
theorem dL_law__1520 : decode cL_law_ 1520 = .ok (.aload_n 2, 1) := by decide +kernel
theorem dL_law__1521 : decode cL_law_ 1521 = .ok (.invokevirtual 151, 3) := by decide +kernel
theorem dL_law__1524 : decode cL_law_ 1524 = .ok (.iload 5, 2) := by decide +kernel
theorem dL_law__1526 : decode cL_law_ 1526 = .ok (.if_icmp .eq 5, 3) := by decide +kernel
theorem dL_law__1531 : decode cL_law_ 1531 = .ok (.iload 5, 2) := by decide +kernel
theorem dL_law__1533 : decode cL_law_ 1533 = .ok (.ifCond .ne 15, 3) := by decide +kernel
theorem dL_law__1536 : decode cL_law_ 1536 = .ok (.aload_n 3, 1) := by decide +kernel
theorem dL_law__1537 : decode cL_law_ 1537 = .ok (.iconst 0, 1) := by decide +kernel
theorem dL_law__1538 : decode cL_law_ 1538 = .ok (.laload, 1) := by decide +kernel
theorem dL_law__1539 : decode cL_law_ 1539 = .ok (.iload 6, 2) := by decide +kernel
theorem dL_law__1541 : decode cL_law_ 1541 = .ok (.i2l, 1) := by decide +kernel
theorem dL_law__1542 : decode cL_law_ 1542 = .ok (.lcmp, 1) := by decide +kernel
theorem dL_law__1543 : decode cL_law_ 1543 = .ok (.ifCond .eq 5, 3) := by decide +kernel
theorem dL_law__1548 : decode cL_law_ 1548 = .ok (.goto 1417, 3) := by decide +kernel
def lc_19 (xs : Nat → Int32) (n : Nat) (K : Int32 → Mem → Option Unit) (i : Int32) (μ : Mem) : Option Unit := ix (i + 1) n (ix (i + 2) n (ix (i + 3) n ((f_L_ahead μ (xs (i + 1).toNatClampNeg) (xs (i + 2).toNatClampNeg) (xs (i + 3).toNatClampNeg)).bind fun (q1 : Int32 × Mem) => ix (i + 1) n (ix (i + 2) n (ix (i + 3) n ((f_X10_ahead q1.2 (xs (i + 1).toNatClampNeg) (xs (i + 2).toNatClampNeg) (xs (i + 3).toNatClampNeg)).bind fun (q2 : Int32 × Mem) => (f_X10_thrown q2.2).bind fun (q3 : Int32) => if q3 = q1.1 then (if q1.1 = 0 then (ix 0 1 (if (lg_cmp ((q2.2 0 22 (Int32.toNatClampNeg 0)).toInt64) q2.1.toInt64) = 0 then (K i q2.2) else (none))) else (K i q2.2)) else (none)))))))
set_option maxHeartbeats 4000000 in
set_option maxRecDepth 100000 in
theorem hlc_19 {G : GG} {C : CX} {Q : Unit → State → Prop} {kc ks b n : Nat} {xs : Nat → Int32} {K : Int32 → Mem → Option Unit} (hl0 : C.2.1.stackTraces = false) (hC : CO G C "SaturdayKeepLaw" cL_law_ 7 62 kc ks (some .boolean)) (hC1 : CO G C "SaturdayKeepLaw" cL_law_ 7 62 (kc + 1) (ks + 6) (some .boolean)) (hX : SC G C b n xs) (hK : ∀ i μ, AW G C Q (kc + 1) (ks + 6) 7 μ 2965 [some (.ref b), some (.ref (gad G 0 0)), some (.ref (gad G 0 12)), some (.ref (gad G 0 22)), some (.int i), none, none] [] (K i μ)) (i : Int32) (μ : Mem) : AW G C Q kc ks 7 μ 1471 [some (.ref b), some (.ref (gad G 0 0)), some (.ref (gad G 0 12)), some (.ref (gad G 0 22)), some (.int i), none, none] [] (lc_19 xs n K i μ) := by
  have hK0 := fun i μ => aw_wide (Nat.le_succ kc) (Nat.le_add_right ks 6) (hK i μ)
  delta lc_19
  refine aw_aload_n (pc := 1471) (i := 1) hC dL_law__1471 rfl rfl ?_
  refine aw_aload_n (pc := 1472) (i := 0) hC dL_law__1472 rfl rfl ?_
  refine aw_iload (pc := 1473) hC dL_law__1473 rfl ?_
  refine aw_iconst (pc := 1475) (v := 1) hC dL_law__1475 ic1 ?_
  refine aw_iadd (pc := 1476) hC dL_law__1476 ?_
  refine aw_sld (pc := 1477) hC hX dL_law__1477 ?_
  refine aw_aload_n (pc := 1478) (i := 0) hC dL_law__1478 rfl rfl ?_
  refine aw_iload (pc := 1479) hC dL_law__1479 rfl ?_
  refine aw_iconst (pc := 1481) (v := 2) hC dL_law__1481 ic2 ?_
  refine aw_iadd (pc := 1482) hC dL_law__1482 ?_
  refine aw_sld (pc := 1483) hC hX dL_law__1483 ?_
  refine aw_aload_n (pc := 1484) (i := 0) hC dL_law__1484 rfl rfl ?_
  refine aw_iload (pc := 1485) hC dL_law__1485 rfl ?_
  refine aw_iconst (pc := 1487) (v := 3) hC dL_law__1487 ic3 ?_
  refine aw_iadd (pc := 1488) hC dL_law__1488 ?_
  refine aw_sld (pc := 1489) hC hX dL_law__1489 ?_
  refine aw_aload_n (pc := 1490) (i := 3) hC dL_law__1490 rfl rfl ?_
  refine aw_callSH (pc := 1491) (As := [.ref (gad G 0 0), .int (xs (i + 1).toNatClampNeg), .int (xs (i + 2).toNatClampNeg), .int (xs (i + 3).toNatClampNeg), .ref (gad G 0 22)]) hC hC1 mw_L_ahead kw1103 (by decide) (c_L_ahead G C.2.1 hl0 μ (xs (i + 1).toNatClampNeg) (xs (i + 2).toNatClampNeg) (xs (i + 3).toNatClampNeg)) rfl (Nat.le_of_ble_eq_true rfl) dL_law__1491 (fun q1 => ?_)
  refine aw_istore (pc := 1494) hC1 dL_law__1494 rfl (by decide) ?_
  refine aw_aload_n (pc := 1496) (i := 2) hC1 dL_law__1496 rfl rfl ?_
  refine aw_aload_n (pc := 1497) (i := 0) hC1 dL_law__1497 rfl rfl ?_
  refine aw_iload (pc := 1498) hC1 dL_law__1498 rfl ?_
  refine aw_iconst (pc := 1500) (v := 1) hC1 dL_law__1500 ic1 ?_
  refine aw_iadd (pc := 1501) hC1 dL_law__1501 ?_
  refine aw_sld (pc := 1502) hC1 hX dL_law__1502 ?_
  refine aw_aload_n (pc := 1503) (i := 0) hC1 dL_law__1503 rfl rfl ?_
  refine aw_iload (pc := 1504) hC1 dL_law__1504 rfl ?_
  refine aw_iconst (pc := 1506) (v := 2) hC1 dL_law__1506 ic2 ?_
  refine aw_iadd (pc := 1507) hC1 dL_law__1507 ?_
  refine aw_sld (pc := 1508) hC1 hX dL_law__1508 ?_
  refine aw_aload_n (pc := 1509) (i := 0) hC1 dL_law__1509 rfl rfl ?_
  refine aw_iload (pc := 1510) hC1 dL_law__1510 rfl ?_
  refine aw_iconst (pc := 1512) (v := 3) hC1 dL_law__1512 ic3 ?_
  refine aw_iadd (pc := 1513) hC1 dL_law__1513 ?_
  refine aw_sld (pc := 1514) hC1 hX dL_law__1514 ?_
  refine aw_callVI (pc := 1515) (As := [.int (xs (i + 1).toNatClampNeg), .int (xs (i + 2).toNatClampNeg), .int (xs (i + 3).toNatClampNeg)]) hC1 mb_X10_ahead kw1679 (by decide) (c_X10_ahead G C.2.1   q1.2 (xs (i + 1).toNatClampNeg) (xs (i + 2).toNatClampNeg) (xs (i + 3).toNatClampNeg)) (v0 (j := 12) (by decide)) rfl rfl rfl (Nat.le_of_ble_eq_true rfl) dL_law__1515 (fun q2 => ?_)
  refine aw_istore (pc := 1518) hC1 dL_law__1518 rfl (by decide) ?_
  refine aw_aload_n (pc := 1520) (i := 2) hC1 dL_law__1520 rfl rfl ?_
  refine aw_callVR (pc := 1521) (As := []) hC1 mb_X10_thrown kw1382 (by decide) (c_X10_thrown G C.2.1   q2.2 ) (v0 (j := 12) (by decide)) rfl rfl rfl (Nat.le_of_ble_eq_true rfl) dL_law__1521 (fun q3 => ?_)
  refine aw_iload (pc := 1524) hC1 dL_law__1524 rfl ?_
  refine aw_icmp_eq (pc := 1526) (tgt := 1531) hC1 dL_law__1526 (by decide) (fun _ => ?_) (fun _ => ?_)
  · skip
    refine aw_iload (pc := 1531) hC1 dL_law__1531 rfl ?_
    refine aw_if_ne (pc := 1533) (tgt := 1548) hC1 dL_law__1533 (by decide) (fun _ => ?_) (fun _ => ?_)
    · skip
      refine aw_aload_n (pc := 1536) (i := 3) hC1 dL_law__1536 rfl rfl ?_
      refine aw_iconst (pc := 1537) (v := 0) hC1 dL_law__1537 ic0 ?_
      refine aw_laload (pc := 1538) hC1 dL_law__1538 ?_
      refine aw_iload (pc := 1539) hC1 dL_law__1539 rfl ?_
      refine aw_i2l (pc := 1541) hC1 dL_law__1541 ?_
      refine aw_lcmp (pc := 1542) hC1 dL_law__1542 ?_
      refine aw_if_eq (pc := 1543) (tgt := 1548) hC1 dL_law__1543 (by decide) (fun _ => ?_) (fun _ => ?_)
      · skip
        refine aw_goto (pc := 1548) (tgt := 2965) hC1 dL_law__1548 (by decide) ?_
        exact aw_drop [5, 6] (hK i q2.2)
      · skip
        exact aw_none
    · skip
      refine aw_goto (pc := 1548) (tgt := 2965) hC1 dL_law__1548 (by decide) ?_
      exact aw_drop [5, 6] (hK i q2.2)
  · skip
    exact aw_none
theorem dL_law__1551 : decode cL_law_ 1551 = .ok (.aload_n 1, 1) := by decide +kernel
theorem dL_law__1552 : decode cL_law_ 1552 = .ok (.invokevirtual 211, 3) := by decide +kernel
theorem dL_law__1555 : decode cL_law_ 1555 = .ok (.aload_n 2, 1) := by decide +kernel
theorem dL_law__1556 : decode cL_law_ 1556 = .ok (.invokevirtual 214, 3) := by decide +kernel
theorem dL_law__1559 : decode cL_law_ 1559 = .ok (.if_icmp .eq 1406, 3) := by decide +kernel
def lc_20 (xs : Nat → Int32) (n : Nat) (K : Int32 → Mem → Option Unit) (i : Int32) (μ : Mem) : Option Unit := (f_X9_both μ).bind fun (q1 : Int32) => (f_X10_both μ).bind fun (q2 : Int32 × Mem) => if q1 = q2.1 then (K i q2.2) else (none)
set_option maxHeartbeats 4000000 in
set_option maxRecDepth 100000 in
theorem hlc_20 {G : GG} {C : CX} {Q : Unit → State → Prop} {kc ks b n : Nat} {xs : Nat → Int32} {K : Int32 → Mem → Option Unit} (hl0 : C.2.1.stackTraces = false) (hC : CO G C "SaturdayKeepLaw" cL_law_ 7 62 kc ks (some .boolean)) (hC1 : CO G C "SaturdayKeepLaw" cL_law_ 7 62 (kc + 1) (ks + 6) (some .boolean)) (hX : SC G C b n xs) (hK : ∀ i μ, AW G C Q (kc + 1) (ks + 6) 7 μ 2965 [some (.ref b), some (.ref (gad G 0 0)), some (.ref (gad G 0 12)), some (.ref (gad G 0 22)), some (.int i), none, none] [] (K i μ)) (i : Int32) (μ : Mem) : AW G C Q kc ks 7 μ 1551 [some (.ref b), some (.ref (gad G 0 0)), some (.ref (gad G 0 12)), some (.ref (gad G 0 22)), some (.int i), none, none] [] (lc_20 xs n K i μ) := by
  have hK0 := fun i μ => aw_wide (Nat.le_succ kc) (Nat.le_add_right ks 6) (hK i μ)
  delta lc_20
  refine aw_aload_n (pc := 1551) (i := 1) hC dL_law__1551 rfl rfl ?_
  refine aw_callVR (pc := 1552) (As := []) hC mb_X9_both kw326 (by decide) (c_X9_both G C.2.1   μ ) (v0 (j := 0) (by decide)) rfl rfl rfl (Nat.le_of_ble_eq_true rfl) dL_law__1552 (fun q1 => ?_)
  refine aw_aload_n (pc := 1555) (i := 2) hC dL_law__1555 rfl rfl ?_
  refine aw_callVI (pc := 1556) (As := []) hC mb_X10_both kw1683 (by decide) (c_X10_both G C.2.1   μ ) (v0 (j := 12) (by decide)) rfl rfl rfl (Nat.le_of_ble_eq_true rfl) dL_law__1556 (fun q2 => ?_)
  refine aw_icmp_eq (pc := 1559) (tgt := 2965) hC dL_law__1559 (by decide) (fun _ => ?_) (fun _ => ?_)
  · skip
    exact hK0 i q2.2
  · skip
    exact aw_none
theorem dL_law__1564 : decode cL_law_ 1564 = .ok (.aload_n 1, 1) := by decide +kernel
theorem dL_law__1565 : decode cL_law_ 1565 = .ok (.aload_n 0, 1) := by decide +kernel
theorem dL_law__1566 : decode cL_law_ 1566 = .ok (.iload 4, 2) := by decide +kernel
theorem dL_law__1568 : decode cL_law_ 1568 = .ok (.iconst 1, 1) := by decide +kernel
theorem dL_law__1569 : decode cL_law_ 1569 = .ok (.iadd, 1) := by decide +kernel
theorem dL_law__1570 : decode cL_law_ 1570 = .ok (.iaload, 1) := by decide +kernel
theorem dL_law__1571 : decode cL_law_ 1571 = .ok (.aload_n 3, 1) := by decide +kernel
theorem dL_law__1572 : decode cL_law_ 1572 = .ok (.invokestatic 215, 3) := by decide +kernel
theorem dL_law__1575 : decode cL_law_ 1575 = .ok (.istore 5, 2) := by decide +kernel
theorem dL_law__1577 : decode cL_law_ 1577 = .ok (.aload_n 2, 1) := by decide +kernel
theorem dL_law__1578 : decode cL_law_ 1578 = .ok (.aload_n 0, 1) := by decide +kernel
theorem dL_law__1579 : decode cL_law_ 1579 = .ok (.iload 4, 2) := by decide +kernel
theorem dL_law__1581 : decode cL_law_ 1581 = .ok (.iconst 1, 1) := by decide +kernel
theorem dL_law__1582 : decode cL_law_ 1582 = .ok (.iadd, 1) := by decide +kernel
theorem dL_law__1583 : decode cL_law_ 1583 = .ok (.iaload, 1) := by decide +kernel
theorem dL_law__1584 : decode cL_law_ 1584 = .ok (.invokevirtual 217, 3) := by decide +kernel
theorem dL_law__1587 : decode cL_law_ 1587 = .ok (.istore 6, 2) := by decide +kernel
theorem dL_law__1589 : decode cL_law_ 1589 = .ok (.aload_n 2, 1) := by decide +kernel
theorem dL_law__1590 : decode cL_law_ 1590 = .ok (.invokevirtual 151, 3) := by decide +kernel
theorem dL_law__1593 : decode cL_law_ 1593 = .ok (.iload 5, 2) := by decide +kernel
theorem dL_law__1595 : decode cL_law_ 1595 = .ok (.if_icmp .eq 5, 3) := by decide +kernel
theorem dL_law__1600 : decode cL_law_ 1600 = .ok (.iload 5, 2) := by decide +kernel
theorem dL_law__1602 : decode cL_law_ 1602 = .ok (.ifCond .ne 15, 3) := by decide +kernel
theorem dL_law__1605 : decode cL_law_ 1605 = .ok (.aload_n 3, 1) := by decide +kernel
theorem dL_law__1606 : decode cL_law_ 1606 = .ok (.iconst 0, 1) := by decide +kernel
theorem dL_law__1607 : decode cL_law_ 1607 = .ok (.laload, 1) := by decide +kernel
theorem dL_law__1608 : decode cL_law_ 1608 = .ok (.iload 6, 2) := by decide +kernel
theorem dL_law__1610 : decode cL_law_ 1610 = .ok (.i2l, 1) := by decide +kernel
theorem dL_law__1611 : decode cL_law_ 1611 = .ok (.lcmp, 1) := by decide +kernel
theorem dL_law__1612 : decode cL_law_ 1612 = .ok (.ifCond .eq 5, 3) := by decide +kernel
theorem dL_law__1617 : decode cL_law_ 1617 = .ok (.goto 1348, 3) := by decide +kernel
def lc_21 (xs : Nat → Int32) (n : Nat) (K : Int32 → Mem → Option Unit) (i : Int32) (μ : Mem) : Option Unit := ix (i + 1) n ((f_L_saturdays μ (xs (i + 1).toNatClampNeg)).bind fun (q1 : Int32 × Mem) => ix (i + 1) n ((f_X10_saturdays q1.2 (xs (i + 1).toNatClampNeg)).bind fun (q2 : Int32 × Mem) => (f_X10_thrown q2.2).bind fun (q3 : Int32) => if q3 = q1.1 then (if q1.1 = 0 then (ix 0 1 (if (lg_cmp ((q2.2 0 22 (Int32.toNatClampNeg 0)).toInt64) q2.1.toInt64) = 0 then (K i q2.2) else (none))) else (K i q2.2)) else (none)))
set_option maxHeartbeats 4000000 in
set_option maxRecDepth 100000 in
theorem hlc_21 {G : GG} {C : CX} {Q : Unit → State → Prop} {kc ks b n : Nat} {xs : Nat → Int32} {K : Int32 → Mem → Option Unit} (hl0 : C.2.1.stackTraces = false) (hC : CO G C "SaturdayKeepLaw" cL_law_ 7 62 kc ks (some .boolean)) (hC1 : CO G C "SaturdayKeepLaw" cL_law_ 7 62 (kc + 1) (ks + 6) (some .boolean)) (hX : SC G C b n xs) (hK : ∀ i μ, AW G C Q (kc + 1) (ks + 6) 7 μ 2965 [some (.ref b), some (.ref (gad G 0 0)), some (.ref (gad G 0 12)), some (.ref (gad G 0 22)), some (.int i), none, none] [] (K i μ)) (i : Int32) (μ : Mem) : AW G C Q kc ks 7 μ 1564 [some (.ref b), some (.ref (gad G 0 0)), some (.ref (gad G 0 12)), some (.ref (gad G 0 22)), some (.int i), none, none] [] (lc_21 xs n K i μ) := by
  have hK0 := fun i μ => aw_wide (Nat.le_succ kc) (Nat.le_add_right ks 6) (hK i μ)
  delta lc_21
  refine aw_aload_n (pc := 1564) (i := 1) hC dL_law__1564 rfl rfl ?_
  refine aw_aload_n (pc := 1565) (i := 0) hC dL_law__1565 rfl rfl ?_
  refine aw_iload (pc := 1566) hC dL_law__1566 rfl ?_
  refine aw_iconst (pc := 1568) (v := 1) hC dL_law__1568 ic1 ?_
  refine aw_iadd (pc := 1569) hC dL_law__1569 ?_
  refine aw_sld (pc := 1570) hC hX dL_law__1570 ?_
  refine aw_aload_n (pc := 1571) (i := 3) hC dL_law__1571 rfl rfl ?_
  refine aw_callSH (pc := 1572) (As := [.ref (gad G 0 0), .int (xs (i + 1).toNatClampNeg), .ref (gad G 0 22)]) hC hC1 mw_L_saturdays kw1118 (by decide) (c_L_saturdays G C.2.1 hl0 μ (xs (i + 1).toNatClampNeg)) rfl (Nat.le_of_ble_eq_true rfl) dL_law__1572 (fun q1 => ?_)
  refine aw_istore (pc := 1575) hC1 dL_law__1575 rfl (by decide) ?_
  refine aw_aload_n (pc := 1577) (i := 2) hC1 dL_law__1577 rfl rfl ?_
  refine aw_aload_n (pc := 1578) (i := 0) hC1 dL_law__1578 rfl rfl ?_
  refine aw_iload (pc := 1579) hC1 dL_law__1579 rfl ?_
  refine aw_iconst (pc := 1581) (v := 1) hC1 dL_law__1581 ic1 ?_
  refine aw_iadd (pc := 1582) hC1 dL_law__1582 ?_
  refine aw_sld (pc := 1583) hC1 hX dL_law__1583 ?_
  refine aw_callVI (pc := 1584) (As := [.int (xs (i + 1).toNatClampNeg)]) hC1 mb_X10_saturdays kw1687 (by decide) (c_X10_saturdays G C.2.1   q1.2 (xs (i + 1).toNatClampNeg)) (v0 (j := 12) (by decide)) rfl rfl rfl (Nat.le_of_ble_eq_true rfl) dL_law__1584 (fun q2 => ?_)
  refine aw_istore (pc := 1587) hC1 dL_law__1587 rfl (by decide) ?_
  refine aw_aload_n (pc := 1589) (i := 2) hC1 dL_law__1589 rfl rfl ?_
  refine aw_callVR (pc := 1590) (As := []) hC1 mb_X10_thrown kw1382 (by decide) (c_X10_thrown G C.2.1   q2.2 ) (v0 (j := 12) (by decide)) rfl rfl rfl (Nat.le_of_ble_eq_true rfl) dL_law__1590 (fun q3 => ?_)
  refine aw_iload (pc := 1593) hC1 dL_law__1593 rfl ?_
  refine aw_icmp_eq (pc := 1595) (tgt := 1600) hC1 dL_law__1595 (by decide) (fun _ => ?_) (fun _ => ?_)
  · skip
    refine aw_iload (pc := 1600) hC1 dL_law__1600 rfl ?_
    refine aw_if_ne (pc := 1602) (tgt := 1617) hC1 dL_law__1602 (by decide) (fun _ => ?_) (fun _ => ?_)
    · skip
      refine aw_aload_n (pc := 1605) (i := 3) hC1 dL_law__1605 rfl rfl ?_
      refine aw_iconst (pc := 1606) (v := 0) hC1 dL_law__1606 ic0 ?_
      refine aw_laload (pc := 1607) hC1 dL_law__1607 ?_
      refine aw_iload (pc := 1608) hC1 dL_law__1608 rfl ?_
      refine aw_i2l (pc := 1610) hC1 dL_law__1610 ?_
      refine aw_lcmp (pc := 1611) hC1 dL_law__1611 ?_
      refine aw_if_eq (pc := 1612) (tgt := 1617) hC1 dL_law__1612 (by decide) (fun _ => ?_) (fun _ => ?_)
      · skip
        refine aw_goto (pc := 1617) (tgt := 2965) hC1 dL_law__1617 (by decide) ?_
        exact aw_drop [5, 6] (hK i q2.2)
      · skip
        exact aw_none
    · skip
      refine aw_goto (pc := 1617) (tgt := 2965) hC1 dL_law__1617 (by decide) ?_
      exact aw_drop [5, 6] (hK i q2.2)
  · skip
    exact aw_none
theorem dL_law__1620 : decode cL_law_ 1620 = .ok (.aload_n 1, 1) := by decide +kernel
theorem dL_law__1621 : decode cL_law_ 1621 = .ok (.aload_n 0, 1) := by decide +kernel
theorem dL_law__1622 : decode cL_law_ 1622 = .ok (.iload 4, 2) := by decide +kernel
theorem dL_law__1624 : decode cL_law_ 1624 = .ok (.iconst 1, 1) := by decide +kernel
theorem dL_law__1625 : decode cL_law_ 1625 = .ok (.iadd, 1) := by decide +kernel
theorem dL_law__1626 : decode cL_law_ 1626 = .ok (.iaload, 1) := by decide +kernel
theorem dL_law__1627 : decode cL_law_ 1627 = .ok (.aload_n 0, 1) := by decide +kernel
theorem dL_law__1628 : decode cL_law_ 1628 = .ok (.iload 4, 2) := by decide +kernel
theorem dL_law__1630 : decode cL_law_ 1630 = .ok (.iconst 2, 1) := by decide +kernel
theorem dL_law__1631 : decode cL_law_ 1631 = .ok (.iadd, 1) := by decide +kernel
theorem dL_law__1632 : decode cL_law_ 1632 = .ok (.iaload, 1) := by decide +kernel
theorem dL_law__1633 : decode cL_law_ 1633 = .ok (.aload_n 3, 1) := by decide +kernel
theorem dL_law__1634 : decode cL_law_ 1634 = .ok (.invokestatic 218, 3) := by decide +kernel
theorem dL_law__1637 : decode cL_law_ 1637 = .ok (.istore 5, 2) := by decide +kernel
theorem dL_law__1639 : decode cL_law_ 1639 = .ok (.aload_n 2, 1) := by decide +kernel
theorem dL_law__1640 : decode cL_law_ 1640 = .ok (.aload_n 0, 1) := by decide +kernel
theorem dL_law__1641 : decode cL_law_ 1641 = .ok (.iload 4, 2) := by decide +kernel
theorem dL_law__1643 : decode cL_law_ 1643 = .ok (.iconst 1, 1) := by decide +kernel
theorem dL_law__1644 : decode cL_law_ 1644 = .ok (.iadd, 1) := by decide +kernel
theorem dL_law__1645 : decode cL_law_ 1645 = .ok (.iaload, 1) := by decide +kernel
theorem dL_law__1646 : decode cL_law_ 1646 = .ok (.aload_n 0, 1) := by decide +kernel
theorem dL_law__1647 : decode cL_law_ 1647 = .ok (.iload 4, 2) := by decide +kernel
theorem dL_law__1649 : decode cL_law_ 1649 = .ok (.iconst 2, 1) := by decide +kernel
theorem dL_law__1650 : decode cL_law_ 1650 = .ok (.iadd, 1) := by decide +kernel
theorem dL_law__1651 : decode cL_law_ 1651 = .ok (.iaload, 1) := by decide +kernel
theorem dL_law__1652 : decode cL_law_ 1652 = .ok (.invokevirtual 220, 3) := by decide +kernel
theorem dL_law__1655 : decode cL_law_ 1655 = .ok (.istore 6, 2) := by decide +kernel
theorem dL_law__1657 : decode cL_law_ 1657 = .ok (.aload_n 2, 1) := by decide +kernel
theorem dL_law__1658 : decode cL_law_ 1658 = .ok (.invokevirtual 151, 3) := by decide +kernel
theorem dL_law__1661 : decode cL_law_ 1661 = .ok (.iload 5, 2) := by decide +kernel
theorem dL_law__1663 : decode cL_law_ 1663 = .ok (.if_icmp .eq 5, 3) := by decide +kernel
theorem dL_law__1668 : decode cL_law_ 1668 = .ok (.iload 5, 2) := by decide +kernel
theorem dL_law__1670 : decode cL_law_ 1670 = .ok (.ifCond .ne 15, 3) := by decide +kernel
theorem dL_law__1673 : decode cL_law_ 1673 = .ok (.aload_n 3, 1) := by decide +kernel
theorem dL_law__1674 : decode cL_law_ 1674 = .ok (.iconst 0, 1) := by decide +kernel
theorem dL_law__1675 : decode cL_law_ 1675 = .ok (.laload, 1) := by decide +kernel
theorem dL_law__1676 : decode cL_law_ 1676 = .ok (.iload 6, 2) := by decide +kernel
theorem dL_law__1678 : decode cL_law_ 1678 = .ok (.i2l, 1) := by decide +kernel
theorem dL_law__1679 : decode cL_law_ 1679 = .ok (.lcmp, 1) := by decide +kernel
theorem dL_law__1680 : decode cL_law_ 1680 = .ok (.ifCond .eq 5, 3) := by decide +kernel
theorem dL_law__1685 : decode cL_law_ 1685 = .ok (.goto 1280, 3) := by decide +kernel
def lc_22 (xs : Nat → Int32) (n : Nat) (K : Int32 → Mem → Option Unit) (i : Int32) (μ : Mem) : Option Unit := ix (i + 1) n (ix (i + 2) n ((f_L_first μ (xs (i + 1).toNatClampNeg) (xs (i + 2).toNatClampNeg)).bind fun (q1 : Int32 × Mem) => ix (i + 1) n (ix (i + 2) n ((f_X10_first q1.2 (xs (i + 1).toNatClampNeg) (xs (i + 2).toNatClampNeg)).bind fun (q2 : Int32 × Mem) => (f_X10_thrown q2.2).bind fun (q3 : Int32) => if q3 = q1.1 then (if q1.1 = 0 then (ix 0 1 (if (lg_cmp ((q2.2 0 22 (Int32.toNatClampNeg 0)).toInt64) q2.1.toInt64) = 0 then (K i q2.2) else (none))) else (K i q2.2)) else (none)))))
set_option maxHeartbeats 4000000 in
set_option maxRecDepth 100000 in
theorem hlc_22 {G : GG} {C : CX} {Q : Unit → State → Prop} {kc ks b n : Nat} {xs : Nat → Int32} {K : Int32 → Mem → Option Unit} (hl0 : C.2.1.stackTraces = false) (hC : CO G C "SaturdayKeepLaw" cL_law_ 7 62 kc ks (some .boolean)) (hC1 : CO G C "SaturdayKeepLaw" cL_law_ 7 62 (kc + 1) (ks + 6) (some .boolean)) (hX : SC G C b n xs) (hK : ∀ i μ, AW G C Q (kc + 1) (ks + 6) 7 μ 2965 [some (.ref b), some (.ref (gad G 0 0)), some (.ref (gad G 0 12)), some (.ref (gad G 0 22)), some (.int i), none, none] [] (K i μ)) (i : Int32) (μ : Mem) : AW G C Q kc ks 7 μ 1620 [some (.ref b), some (.ref (gad G 0 0)), some (.ref (gad G 0 12)), some (.ref (gad G 0 22)), some (.int i), none, none] [] (lc_22 xs n K i μ) := by
  have hK0 := fun i μ => aw_wide (Nat.le_succ kc) (Nat.le_add_right ks 6) (hK i μ)
  delta lc_22
  refine aw_aload_n (pc := 1620) (i := 1) hC dL_law__1620 rfl rfl ?_
  refine aw_aload_n (pc := 1621) (i := 0) hC dL_law__1621 rfl rfl ?_
  refine aw_iload (pc := 1622) hC dL_law__1622 rfl ?_
  refine aw_iconst (pc := 1624) (v := 1) hC dL_law__1624 ic1 ?_
  refine aw_iadd (pc := 1625) hC dL_law__1625 ?_
  refine aw_sld (pc := 1626) hC hX dL_law__1626 ?_
  refine aw_aload_n (pc := 1627) (i := 0) hC dL_law__1627 rfl rfl ?_
  refine aw_iload (pc := 1628) hC dL_law__1628 rfl ?_
  refine aw_iconst (pc := 1630) (v := 2) hC dL_law__1630 ic2 ?_
  refine aw_iadd (pc := 1631) hC dL_law__1631 ?_
  refine aw_sld (pc := 1632) hC hX dL_law__1632 ?_
  refine aw_aload_n (pc := 1633) (i := 3) hC dL_law__1633 rfl rfl ?_
  refine aw_callSH (pc := 1634) (As := [.ref (gad G 0 0), .int (xs (i + 1).toNatClampNeg), .int (xs (i + 2).toNatClampNeg), .ref (gad G 0 22)]) hC hC1 mw_L_first kw1125 (by decide) (c_L_first G C.2.1 hl0 μ (xs (i + 1).toNatClampNeg) (xs (i + 2).toNatClampNeg)) rfl (Nat.le_of_ble_eq_true rfl) dL_law__1634 (fun q1 => ?_)
  refine aw_istore (pc := 1637) hC1 dL_law__1637 rfl (by decide) ?_
  refine aw_aload_n (pc := 1639) (i := 2) hC1 dL_law__1639 rfl rfl ?_
  refine aw_aload_n (pc := 1640) (i := 0) hC1 dL_law__1640 rfl rfl ?_
  refine aw_iload (pc := 1641) hC1 dL_law__1641 rfl ?_
  refine aw_iconst (pc := 1643) (v := 1) hC1 dL_law__1643 ic1 ?_
  refine aw_iadd (pc := 1644) hC1 dL_law__1644 ?_
  refine aw_sld (pc := 1645) hC1 hX dL_law__1645 ?_
  refine aw_aload_n (pc := 1646) (i := 0) hC1 dL_law__1646 rfl rfl ?_
  refine aw_iload (pc := 1647) hC1 dL_law__1647 rfl ?_
  refine aw_iconst (pc := 1649) (v := 2) hC1 dL_law__1649 ic2 ?_
  refine aw_iadd (pc := 1650) hC1 dL_law__1650 ?_
  refine aw_sld (pc := 1651) hC1 hX dL_law__1651 ?_
  refine aw_callVI (pc := 1652) (As := [.int (xs (i + 1).toNatClampNeg), .int (xs (i + 2).toNatClampNeg)]) hC1 mb_X10_first kw1691 (by decide) (c_X10_first G C.2.1   q1.2 (xs (i + 1).toNatClampNeg) (xs (i + 2).toNatClampNeg)) (v0 (j := 12) (by decide)) rfl rfl rfl (Nat.le_of_ble_eq_true rfl) dL_law__1652 (fun q2 => ?_)
  refine aw_istore (pc := 1655) hC1 dL_law__1655 rfl (by decide) ?_
  refine aw_aload_n (pc := 1657) (i := 2) hC1 dL_law__1657 rfl rfl ?_
  refine aw_callVR (pc := 1658) (As := []) hC1 mb_X10_thrown kw1382 (by decide) (c_X10_thrown G C.2.1   q2.2 ) (v0 (j := 12) (by decide)) rfl rfl rfl (Nat.le_of_ble_eq_true rfl) dL_law__1658 (fun q3 => ?_)
  refine aw_iload (pc := 1661) hC1 dL_law__1661 rfl ?_
  refine aw_icmp_eq (pc := 1663) (tgt := 1668) hC1 dL_law__1663 (by decide) (fun _ => ?_) (fun _ => ?_)
  · skip
    refine aw_iload (pc := 1668) hC1 dL_law__1668 rfl ?_
    refine aw_if_ne (pc := 1670) (tgt := 1685) hC1 dL_law__1670 (by decide) (fun _ => ?_) (fun _ => ?_)
    · skip
      refine aw_aload_n (pc := 1673) (i := 3) hC1 dL_law__1673 rfl rfl ?_
      refine aw_iconst (pc := 1674) (v := 0) hC1 dL_law__1674 ic0 ?_
      refine aw_laload (pc := 1675) hC1 dL_law__1675 ?_
      refine aw_iload (pc := 1676) hC1 dL_law__1676 rfl ?_
      refine aw_i2l (pc := 1678) hC1 dL_law__1678 ?_
      refine aw_lcmp (pc := 1679) hC1 dL_law__1679 ?_
      refine aw_if_eq (pc := 1680) (tgt := 1685) hC1 dL_law__1680 (by decide) (fun _ => ?_) (fun _ => ?_)
      · skip
        refine aw_goto (pc := 1685) (tgt := 2965) hC1 dL_law__1685 (by decide) ?_
        exact aw_drop [5, 6] (hK i q2.2)
      · skip
        exact aw_none
    · skip
      refine aw_goto (pc := 1685) (tgt := 2965) hC1 dL_law__1685 (by decide) ?_
      exact aw_drop [5, 6] (hK i q2.2)
  · skip
    exact aw_none
theorem dL_law__1688 : decode cL_law_ 1688 = .ok (.aload_n 1, 1) := by decide +kernel
theorem dL_law__1689 : decode cL_law_ 1689 = .ok (.invokevirtual 221, 3) := by decide +kernel
theorem dL_law__1692 : decode cL_law_ 1692 = .ok (.aload_n 2, 1) := by decide +kernel
theorem dL_law__1693 : decode cL_law_ 1693 = .ok (.invokevirtual 224, 3) := by decide +kernel
theorem dL_law__1696 : decode cL_law_ 1696 = .ok (.if_icmp .eq 1269, 3) := by decide +kernel
def lc_23 (xs : Nat → Int32) (n : Nat) (K : Int32 → Mem → Option Unit) (i : Int32) (μ : Mem) : Option Unit := (f_X9_gone μ).bind fun (q1 : Int32 × Mem) => (f_X10_gone q1.2).bind fun (q2 : Int32 × Mem) => if q1.1 = q2.1 then (K i q2.2) else (none)
set_option maxHeartbeats 4000000 in
set_option maxRecDepth 100000 in
theorem hlc_23 {G : GG} {C : CX} {Q : Unit → State → Prop} {kc ks b n : Nat} {xs : Nat → Int32} {K : Int32 → Mem → Option Unit} (hl0 : C.2.1.stackTraces = false) (hC : CO G C "SaturdayKeepLaw" cL_law_ 7 62 kc ks (some .boolean)) (hC1 : CO G C "SaturdayKeepLaw" cL_law_ 7 62 (kc + 1) (ks + 6) (some .boolean)) (hX : SC G C b n xs) (hK : ∀ i μ, AW G C Q (kc + 1) (ks + 6) 7 μ 2965 [some (.ref b), some (.ref (gad G 0 0)), some (.ref (gad G 0 12)), some (.ref (gad G 0 22)), some (.int i), none, none] [] (K i μ)) (i : Int32) (μ : Mem) : AW G C Q kc ks 7 μ 1688 [some (.ref b), some (.ref (gad G 0 0)), some (.ref (gad G 0 12)), some (.ref (gad G 0 22)), some (.int i), none, none] [] (lc_23 xs n K i μ) := by
  have hK0 := fun i μ => aw_wide (Nat.le_succ kc) (Nat.le_add_right ks 6) (hK i μ)
  delta lc_23
  refine aw_aload_n (pc := 1688) (i := 1) hC dL_law__1688 rfl rfl ?_
  refine aw_callVI (pc := 1689) (As := []) hC mb_X9_gone kw342 (by decide) (c_X9_gone G C.2.1   μ ) (v0 (j := 0) (by decide)) rfl rfl rfl (Nat.le_of_ble_eq_true rfl) dL_law__1689 (fun q1 => ?_)
  refine aw_aload_n (pc := 1692) (i := 2) hC dL_law__1692 rfl rfl ?_
  refine aw_callVI (pc := 1693) (As := []) hC mb_X10_gone kw1695 (by decide) (c_X10_gone G C.2.1   q1.2 ) (v0 (j := 12) (by decide)) rfl rfl rfl (Nat.le_of_ble_eq_true rfl) dL_law__1693 (fun q2 => ?_)
  refine aw_icmp_eq (pc := 1696) (tgt := 2965) hC dL_law__1696 (by decide) (fun _ => ?_) (fun _ => ?_)
  · skip
    exact hK0 i q2.2
  · skip
    exact aw_none
theorem dL_law__1701 : decode cL_law_ 1701 = .ok (.aload_n 1, 1) := by decide +kernel
theorem dL_law__1702 : decode cL_law_ 1702 = .ok (.aload_n 0, 1) := by decide +kernel
theorem dL_law__1703 : decode cL_law_ 1703 = .ok (.iload 4, 2) := by decide +kernel
theorem dL_law__1705 : decode cL_law_ 1705 = .ok (.iconst 1, 1) := by decide +kernel
theorem dL_law__1706 : decode cL_law_ 1706 = .ok (.iadd, 1) := by decide +kernel
theorem dL_law__1707 : decode cL_law_ 1707 = .ok (.iaload, 1) := by decide +kernel
theorem dL_law__1708 : decode cL_law_ 1708 = .ok (.aload_n 3, 1) := by decide +kernel
theorem dL_law__1709 : decode cL_law_ 1709 = .ok (.invokestatic 225, 3) := by decide +kernel
theorem dL_law__1712 : decode cL_law_ 1712 = .ok (.istore 5, 2) := by decide +kernel
theorem dL_law__1714 : decode cL_law_ 1714 = .ok (.aload_n 2, 1) := by decide +kernel
theorem dL_law__1715 : decode cL_law_ 1715 = .ok (.aload_n 0, 1) := by decide +kernel
theorem dL_law__1716 : decode cL_law_ 1716 = .ok (.iload 4, 2) := by decide +kernel
theorem dL_law__1718 : decode cL_law_ 1718 = .ok (.iconst 1, 1) := by decide +kernel
theorem dL_law__1719 : decode cL_law_ 1719 = .ok (.iadd, 1) := by decide +kernel
theorem dL_law__1720 : decode cL_law_ 1720 = .ok (.iaload, 1) := by decide +kernel
theorem dL_law__1721 : decode cL_law_ 1721 = .ok (.invokevirtual 227, 3) := by decide +kernel
theorem dL_law__1724 : decode cL_law_ 1724 = .ok (.istore 6, 2) := by decide +kernel
theorem dL_law__1726 : decode cL_law_ 1726 = .ok (.aload_n 2, 1) := by decide +kernel
theorem dL_law__1727 : decode cL_law_ 1727 = .ok (.invokevirtual 151, 3) := by decide +kernel
theorem dL_law__1730 : decode cL_law_ 1730 = .ok (.iload 5, 2) := by decide +kernel
theorem dL_law__1732 : decode cL_law_ 1732 = .ok (.if_icmp .eq 5, 3) := by decide +kernel
theorem dL_law__1737 : decode cL_law_ 1737 = .ok (.iload 5, 2) := by decide +kernel
theorem dL_law__1739 : decode cL_law_ 1739 = .ok (.ifCond .ne 15, 3) := by decide +kernel
theorem dL_law__1742 : decode cL_law_ 1742 = .ok (.aload_n 3, 1) := by decide +kernel
theorem dL_law__1743 : decode cL_law_ 1743 = .ok (.iconst 0, 1) := by decide +kernel
theorem dL_law__1744 : decode cL_law_ 1744 = .ok (.laload, 1) := by decide +kernel
theorem dL_law__1745 : decode cL_law_ 1745 = .ok (.iload 6, 2) := by decide +kernel
theorem dL_law__1747 : decode cL_law_ 1747 = .ok (.i2l, 1) := by decide +kernel
theorem dL_law__1748 : decode cL_law_ 1748 = .ok (.lcmp, 1) := by decide +kernel
theorem dL_law__1749 : decode cL_law_ 1749 = .ok (.ifCond .eq 5, 3) := by decide +kernel
theorem dL_law__1754 : decode cL_law_ 1754 = .ok (.goto 1211, 3) := by decide +kernel
def lc_24 (xs : Nat → Int32) (n : Nat) (K : Int32 → Mem → Option Unit) (i : Int32) (μ : Mem) : Option Unit := ix (i + 1) n ((f_L_stand μ (xs (i + 1).toNatClampNeg)).bind fun (q1 : Int32 × Mem) => ix (i + 1) n ((f_X10_stand q1.2 (xs (i + 1).toNatClampNeg)).bind fun (q2 : Int32 × Mem) => (f_X10_thrown q2.2).bind fun (q3 : Int32) => if q3 = q1.1 then (if q1.1 = 0 then (ix 0 1 (if (lg_cmp ((q2.2 0 22 (Int32.toNatClampNeg 0)).toInt64) q2.1.toInt64) = 0 then (K i q2.2) else (none))) else (K i q2.2)) else (none)))
set_option maxHeartbeats 4000000 in
set_option maxRecDepth 100000 in
theorem hlc_24 {G : GG} {C : CX} {Q : Unit → State → Prop} {kc ks b n : Nat} {xs : Nat → Int32} {K : Int32 → Mem → Option Unit} (hl0 : C.2.1.stackTraces = false) (hC : CO G C "SaturdayKeepLaw" cL_law_ 7 62 kc ks (some .boolean)) (hC1 : CO G C "SaturdayKeepLaw" cL_law_ 7 62 (kc + 1) (ks + 6) (some .boolean)) (hX : SC G C b n xs) (hK : ∀ i μ, AW G C Q (kc + 1) (ks + 6) 7 μ 2965 [some (.ref b), some (.ref (gad G 0 0)), some (.ref (gad G 0 12)), some (.ref (gad G 0 22)), some (.int i), none, none] [] (K i μ)) (i : Int32) (μ : Mem) : AW G C Q kc ks 7 μ 1701 [some (.ref b), some (.ref (gad G 0 0)), some (.ref (gad G 0 12)), some (.ref (gad G 0 22)), some (.int i), none, none] [] (lc_24 xs n K i μ) := by
  have hK0 := fun i μ => aw_wide (Nat.le_succ kc) (Nat.le_add_right ks 6) (hK i μ)
  delta lc_24
  refine aw_aload_n (pc := 1701) (i := 1) hC dL_law__1701 rfl rfl ?_
  refine aw_aload_n (pc := 1702) (i := 0) hC dL_law__1702 rfl rfl ?_
  refine aw_iload (pc := 1703) hC dL_law__1703 rfl ?_
  refine aw_iconst (pc := 1705) (v := 1) hC dL_law__1705 ic1 ?_
  refine aw_iadd (pc := 1706) hC dL_law__1706 ?_
  refine aw_sld (pc := 1707) hC hX dL_law__1707 ?_
  refine aw_aload_n (pc := 1708) (i := 3) hC dL_law__1708 rfl rfl ?_
  refine aw_callSH (pc := 1709) (As := [.ref (gad G 0 0), .int (xs (i + 1).toNatClampNeg), .ref (gad G 0 22)]) hC hC1 mw_L_stand kw1133 (by decide) (c_L_stand G C.2.1 hl0 μ (xs (i + 1).toNatClampNeg)) rfl (Nat.le_of_ble_eq_true rfl) dL_law__1709 (fun q1 => ?_)
  refine aw_istore (pc := 1712) hC1 dL_law__1712 rfl (by decide) ?_
  refine aw_aload_n (pc := 1714) (i := 2) hC1 dL_law__1714 rfl rfl ?_
  refine aw_aload_n (pc := 1715) (i := 0) hC1 dL_law__1715 rfl rfl ?_
  refine aw_iload (pc := 1716) hC1 dL_law__1716 rfl ?_
  refine aw_iconst (pc := 1718) (v := 1) hC1 dL_law__1718 ic1 ?_
  refine aw_iadd (pc := 1719) hC1 dL_law__1719 ?_
  refine aw_sld (pc := 1720) hC1 hX dL_law__1720 ?_
  refine aw_callVI (pc := 1721) (As := [.int (xs (i + 1).toNatClampNeg)]) hC1 mb_X10_stand kw1703 (by decide) (c_X10_stand G C.2.1   q1.2 (xs (i + 1).toNatClampNeg)) (v0 (j := 12) (by decide)) rfl rfl rfl (Nat.le_of_ble_eq_true rfl) dL_law__1721 (fun q2 => ?_)
  refine aw_istore (pc := 1724) hC1 dL_law__1724 rfl (by decide) ?_
  refine aw_aload_n (pc := 1726) (i := 2) hC1 dL_law__1726 rfl rfl ?_
  refine aw_callVR (pc := 1727) (As := []) hC1 mb_X10_thrown kw1382 (by decide) (c_X10_thrown G C.2.1   q2.2 ) (v0 (j := 12) (by decide)) rfl rfl rfl (Nat.le_of_ble_eq_true rfl) dL_law__1727 (fun q3 => ?_)
  refine aw_iload (pc := 1730) hC1 dL_law__1730 rfl ?_
  refine aw_icmp_eq (pc := 1732) (tgt := 1737) hC1 dL_law__1732 (by decide) (fun _ => ?_) (fun _ => ?_)
  · skip
    refine aw_iload (pc := 1737) hC1 dL_law__1737 rfl ?_
    refine aw_if_ne (pc := 1739) (tgt := 1754) hC1 dL_law__1739 (by decide) (fun _ => ?_) (fun _ => ?_)
    · skip
      refine aw_aload_n (pc := 1742) (i := 3) hC1 dL_law__1742 rfl rfl ?_
      refine aw_iconst (pc := 1743) (v := 0) hC1 dL_law__1743 ic0 ?_
      refine aw_laload (pc := 1744) hC1 dL_law__1744 ?_
      refine aw_iload (pc := 1745) hC1 dL_law__1745 rfl ?_
      refine aw_i2l (pc := 1747) hC1 dL_law__1747 ?_
      refine aw_lcmp (pc := 1748) hC1 dL_law__1748 ?_
      refine aw_if_eq (pc := 1749) (tgt := 1754) hC1 dL_law__1749 (by decide) (fun _ => ?_) (fun _ => ?_)
      · skip
        refine aw_goto (pc := 1754) (tgt := 2965) hC1 dL_law__1754 (by decide) ?_
        exact aw_drop [5, 6] (hK i q2.2)
      · skip
        exact aw_none
    · skip
      refine aw_goto (pc := 1754) (tgt := 2965) hC1 dL_law__1754 (by decide) ?_
      exact aw_drop [5, 6] (hK i q2.2)
  · skip
    exact aw_none
theorem dL_law__1757 : decode cL_law_ 1757 = .ok (.aload_n 1, 1) := by decide +kernel
theorem dL_law__1758 : decode cL_law_ 1758 = .ok (.invokevirtual 228, 3) := by decide +kernel
theorem dL_law__1761 : decode cL_law_ 1761 = .ok (.aload_n 2, 1) := by decide +kernel
theorem dL_law__1762 : decode cL_law_ 1762 = .ok (.invokevirtual 231, 3) := by decide +kernel
theorem dL_law__1765 : decode cL_law_ 1765 = .ok (.if_icmp .eq 1200, 3) := by decide +kernel
def lc_25 (xs : Nat → Int32) (n : Nat) (K : Int32 → Mem → Option Unit) (i : Int32) (μ : Mem) : Option Unit := (f_X9_odds μ).bind fun (q1 : Int32) => (f_X10_odds μ).bind fun (q2 : Int32 × Mem) => if q1 = q2.1 then (K i q2.2) else (none)
set_option maxHeartbeats 4000000 in
set_option maxRecDepth 100000 in
theorem hlc_25 {G : GG} {C : CX} {Q : Unit → State → Prop} {kc ks b n : Nat} {xs : Nat → Int32} {K : Int32 → Mem → Option Unit} (hl0 : C.2.1.stackTraces = false) (hC : CO G C "SaturdayKeepLaw" cL_law_ 7 62 kc ks (some .boolean)) (hC1 : CO G C "SaturdayKeepLaw" cL_law_ 7 62 (kc + 1) (ks + 6) (some .boolean)) (hX : SC G C b n xs) (hK : ∀ i μ, AW G C Q (kc + 1) (ks + 6) 7 μ 2965 [some (.ref b), some (.ref (gad G 0 0)), some (.ref (gad G 0 12)), some (.ref (gad G 0 22)), some (.int i), none, none] [] (K i μ)) (i : Int32) (μ : Mem) : AW G C Q kc ks 7 μ 1757 [some (.ref b), some (.ref (gad G 0 0)), some (.ref (gad G 0 12)), some (.ref (gad G 0 22)), some (.int i), none, none] [] (lc_25 xs n K i μ) := by
  have hK0 := fun i μ => aw_wide (Nat.le_succ kc) (Nat.le_add_right ks 6) (hK i μ)
  delta lc_25
  refine aw_aload_n (pc := 1757) (i := 1) hC dL_law__1757 rfl rfl ?_
  refine aw_callVR (pc := 1758) (As := []) hC mb_X9_odds kw379 (by decide) (c_X9_odds G C.2.1   μ ) (v0 (j := 0) (by decide)) rfl rfl rfl (Nat.le_of_ble_eq_true rfl) dL_law__1758 (fun q1 => ?_)
  refine aw_aload_n (pc := 1761) (i := 2) hC dL_law__1761 rfl rfl ?_
  refine aw_callVI (pc := 1762) (As := []) hC mb_X10_odds kw1707 (by decide) (c_X10_odds G C.2.1   μ ) (v0 (j := 12) (by decide)) rfl rfl rfl (Nat.le_of_ble_eq_true rfl) dL_law__1762 (fun q2 => ?_)
  refine aw_icmp_eq (pc := 1765) (tgt := 2965) hC dL_law__1765 (by decide) (fun _ => ?_) (fun _ => ?_)
  · skip
    exact hK0 i q2.2
  · skip
    exact aw_none
theorem dL_law__1770 : decode cL_law_ 1770 = .ok (.aload_n 1, 1) := by decide +kernel
theorem dL_law__1771 : decode cL_law_ 1771 = .ok (.invokevirtual 232, 3) := by decide +kernel
theorem dL_law__1774 : decode cL_law_ 1774 = .ok (.aload_n 2, 1) := by decide +kernel
theorem dL_law__1775 : decode cL_law_ 1775 = .ok (.invokevirtual 235, 3) := by decide +kernel
theorem dL_law__1778 : decode cL_law_ 1778 = .ok (.if_icmp .eq 1187, 3) := by decide +kernel
def lc_26 (xs : Nat → Int32) (n : Nat) (K : Int32 → Mem → Option Unit) (i : Int32) (μ : Mem) : Option Unit := (f_X9_send μ).bind fun (q1 : Int32) => (f_X10_send μ).bind fun (q2 : Int32 × Mem) => if q1 = q2.1 then (K i q2.2) else (none)
set_option maxHeartbeats 4000000 in
set_option maxRecDepth 100000 in
theorem hlc_26 {G : GG} {C : CX} {Q : Unit → State → Prop} {kc ks b n : Nat} {xs : Nat → Int32} {K : Int32 → Mem → Option Unit} (hl0 : C.2.1.stackTraces = false) (hC : CO G C "SaturdayKeepLaw" cL_law_ 7 62 kc ks (some .boolean)) (hC1 : CO G C "SaturdayKeepLaw" cL_law_ 7 62 (kc + 1) (ks + 6) (some .boolean)) (hX : SC G C b n xs) (hK : ∀ i μ, AW G C Q (kc + 1) (ks + 6) 7 μ 2965 [some (.ref b), some (.ref (gad G 0 0)), some (.ref (gad G 0 12)), some (.ref (gad G 0 22)), some (.int i), none, none] [] (K i μ)) (i : Int32) (μ : Mem) : AW G C Q kc ks 7 μ 1770 [some (.ref b), some (.ref (gad G 0 0)), some (.ref (gad G 0 12)), some (.ref (gad G 0 22)), some (.int i), none, none] [] (lc_26 xs n K i μ) := by
  have hK0 := fun i μ => aw_wide (Nat.le_succ kc) (Nat.le_add_right ks 6) (hK i μ)
  delta lc_26
  refine aw_aload_n (pc := 1770) (i := 1) hC dL_law__1770 rfl rfl ?_
  refine aw_callVR (pc := 1771) (As := []) hC mb_X9_send kw431 (by decide) (c_X9_send G C.2.1   μ ) (v0 (j := 0) (by decide)) rfl rfl rfl (Nat.le_of_ble_eq_true rfl) dL_law__1771 (fun q1 => ?_)
  refine aw_aload_n (pc := 1774) (i := 2) hC dL_law__1774 rfl rfl ?_
  refine aw_callVI (pc := 1775) (As := []) hC mb_X10_send kw1717 (by decide) (c_X10_send G C.2.1   μ ) (v0 (j := 12) (by decide)) rfl rfl rfl (Nat.le_of_ble_eq_true rfl) dL_law__1775 (fun q2 => ?_)
  refine aw_icmp_eq (pc := 1778) (tgt := 2965) hC dL_law__1778 (by decide) (fun _ => ?_) (fun _ => ?_)
  · skip
    exact hK0 i q2.2
  · skip
    exact aw_none
theorem dL_law__1783 : decode cL_law_ 1783 = .ok (.aload_n 1, 1) := by decide +kernel
theorem dL_law__1784 : decode cL_law_ 1784 = .ok (.aload_n 0, 1) := by decide +kernel
theorem dL_law__1785 : decode cL_law_ 1785 = .ok (.iload 4, 2) := by decide +kernel
theorem dL_law__1787 : decode cL_law_ 1787 = .ok (.iconst 1, 1) := by decide +kernel
theorem dL_law__1788 : decode cL_law_ 1788 = .ok (.iadd, 1) := by decide +kernel
theorem dL_law__1789 : decode cL_law_ 1789 = .ok (.iaload, 1) := by decide +kernel
theorem dL_law__1790 : decode cL_law_ 1790 = .ok (.aload_n 3, 1) := by decide +kernel
theorem dL_law__1791 : decode cL_law_ 1791 = .ok (.invokestatic 236, 3) := by decide +kernel
theorem dL_law__1794 : decode cL_law_ 1794 = .ok (.istore 5, 2) := by decide +kernel
theorem dL_law__1796 : decode cL_law_ 1796 = .ok (.aload_n 2, 1) := by decide +kernel
theorem dL_law__1797 : decode cL_law_ 1797 = .ok (.aload_n 0, 1) := by decide +kernel
theorem dL_law__1798 : decode cL_law_ 1798 = .ok (.iload 4, 2) := by decide +kernel
theorem dL_law__1800 : decode cL_law_ 1800 = .ok (.iconst 1, 1) := by decide +kernel
theorem dL_law__1801 : decode cL_law_ 1801 = .ok (.iadd, 1) := by decide +kernel
theorem dL_law__1802 : decode cL_law_ 1802 = .ok (.iaload, 1) := by decide +kernel
theorem dL_law__1803 : decode cL_law_ 1803 = .ok (.invokevirtual 238, 3) := by decide +kernel
theorem dL_law__1806 : decode cL_law_ 1806 = .ok (.istore 6, 2) := by decide +kernel
theorem dL_law__1808 : decode cL_law_ 1808 = .ok (.aload_n 2, 1) := by decide +kernel
theorem dL_law__1809 : decode cL_law_ 1809 = .ok (.invokevirtual 151, 3) := by decide +kernel
theorem dL_law__1812 : decode cL_law_ 1812 = .ok (.iload 5, 2) := by decide +kernel
theorem dL_law__1814 : decode cL_law_ 1814 = .ok (.if_icmp .eq 5, 3) := by decide +kernel
theorem dL_law__1819 : decode cL_law_ 1819 = .ok (.iload 5, 2) := by decide +kernel
theorem dL_law__1821 : decode cL_law_ 1821 = .ok (.ifCond .ne 15, 3) := by decide +kernel
theorem dL_law__1824 : decode cL_law_ 1824 = .ok (.aload_n 3, 1) := by decide +kernel
theorem dL_law__1825 : decode cL_law_ 1825 = .ok (.iconst 0, 1) := by decide +kernel
theorem dL_law__1826 : decode cL_law_ 1826 = .ok (.laload, 1) := by decide +kernel
theorem dL_law__1827 : decode cL_law_ 1827 = .ok (.iload 6, 2) := by decide +kernel
theorem dL_law__1829 : decode cL_law_ 1829 = .ok (.i2l, 1) := by decide +kernel
theorem dL_law__1830 : decode cL_law_ 1830 = .ok (.lcmp, 1) := by decide +kernel
theorem dL_law__1831 : decode cL_law_ 1831 = .ok (.ifCond .eq 5, 3) := by decide +kernel
theorem dL_law__1836 : decode cL_law_ 1836 = .ok (.goto 1129, 3) := by decide +kernel
def lc_27 (xs : Nat → Int32) (n : Nat) (K : Int32 → Mem → Option Unit) (i : Int32) (μ : Mem) : Option Unit := ix (i + 1) n ((f_L_sent μ (xs (i + 1).toNatClampNeg)).bind fun (q1 : Int32 × Mem) => ix (i + 1) n ((f_X10_sent q1.2 (xs (i + 1).toNatClampNeg)).bind fun (q2 : Int32 × Mem) => (f_X10_thrown q2.2).bind fun (q3 : Int32) => if q3 = q1.1 then (if q1.1 = 0 then (ix 0 1 (if (lg_cmp ((q2.2 0 22 (Int32.toNatClampNeg 0)).toInt64) q2.1.toInt64) = 0 then (K i q2.2) else (none))) else (K i q2.2)) else (none)))
set_option maxHeartbeats 4000000 in
set_option maxRecDepth 100000 in
theorem hlc_27 {G : GG} {C : CX} {Q : Unit → State → Prop} {kc ks b n : Nat} {xs : Nat → Int32} {K : Int32 → Mem → Option Unit} (hl0 : C.2.1.stackTraces = false) (hC : CO G C "SaturdayKeepLaw" cL_law_ 7 62 kc ks (some .boolean)) (hC1 : CO G C "SaturdayKeepLaw" cL_law_ 7 62 (kc + 1) (ks + 6) (some .boolean)) (hX : SC G C b n xs) (hK : ∀ i μ, AW G C Q (kc + 1) (ks + 6) 7 μ 2965 [some (.ref b), some (.ref (gad G 0 0)), some (.ref (gad G 0 12)), some (.ref (gad G 0 22)), some (.int i), none, none] [] (K i μ)) (i : Int32) (μ : Mem) : AW G C Q kc ks 7 μ 1783 [some (.ref b), some (.ref (gad G 0 0)), some (.ref (gad G 0 12)), some (.ref (gad G 0 22)), some (.int i), none, none] [] (lc_27 xs n K i μ) := by
  have hK0 := fun i μ => aw_wide (Nat.le_succ kc) (Nat.le_add_right ks 6) (hK i μ)
  delta lc_27
  refine aw_aload_n (pc := 1783) (i := 1) hC dL_law__1783 rfl rfl ?_
  refine aw_aload_n (pc := 1784) (i := 0) hC dL_law__1784 rfl rfl ?_
  refine aw_iload (pc := 1785) hC dL_law__1785 rfl ?_
  refine aw_iconst (pc := 1787) (v := 1) hC dL_law__1787 ic1 ?_
  refine aw_iadd (pc := 1788) hC dL_law__1788 ?_
  refine aw_sld (pc := 1789) hC hX dL_law__1789 ?_
  refine aw_aload_n (pc := 1790) (i := 3) hC dL_law__1790 rfl rfl ?_
  refine aw_callSH (pc := 1791) (As := [.ref (gad G 0 0), .int (xs (i + 1).toNatClampNeg), .ref (gad G 0 22)]) hC hC1 mw_L_sent kw1144 (by decide) (c_L_sent G C.2.1 hl0 μ (xs (i + 1).toNatClampNeg)) rfl (Nat.le_of_ble_eq_true rfl) dL_law__1791 (fun q1 => ?_)
  refine aw_istore (pc := 1794) hC1 dL_law__1794 rfl (by decide) ?_
  refine aw_aload_n (pc := 1796) (i := 2) hC1 dL_law__1796 rfl rfl ?_
  refine aw_aload_n (pc := 1797) (i := 0) hC1 dL_law__1797 rfl rfl ?_
  refine aw_iload (pc := 1798) hC1 dL_law__1798 rfl ?_
  refine aw_iconst (pc := 1800) (v := 1) hC1 dL_law__1800 ic1 ?_
  refine aw_iadd (pc := 1801) hC1 dL_law__1801 ?_
  refine aw_sld (pc := 1802) hC1 hX dL_law__1802 ?_
  refine aw_callVI (pc := 1803) (As := [.int (xs (i + 1).toNatClampNeg)]) hC1 mb_X10_sent kw1721 (by decide) (c_X10_sent G C.2.1   q1.2 (xs (i + 1).toNatClampNeg)) (v0 (j := 12) (by decide)) rfl rfl rfl (Nat.le_of_ble_eq_true rfl) dL_law__1803 (fun q2 => ?_)
  refine aw_istore (pc := 1806) hC1 dL_law__1806 rfl (by decide) ?_
  refine aw_aload_n (pc := 1808) (i := 2) hC1 dL_law__1808 rfl rfl ?_
  refine aw_callVR (pc := 1809) (As := []) hC1 mb_X10_thrown kw1382 (by decide) (c_X10_thrown G C.2.1   q2.2 ) (v0 (j := 12) (by decide)) rfl rfl rfl (Nat.le_of_ble_eq_true rfl) dL_law__1809 (fun q3 => ?_)
  refine aw_iload (pc := 1812) hC1 dL_law__1812 rfl ?_
  refine aw_icmp_eq (pc := 1814) (tgt := 1819) hC1 dL_law__1814 (by decide) (fun _ => ?_) (fun _ => ?_)
  · skip
    refine aw_iload (pc := 1819) hC1 dL_law__1819 rfl ?_
    refine aw_if_ne (pc := 1821) (tgt := 1836) hC1 dL_law__1821 (by decide) (fun _ => ?_) (fun _ => ?_)
    · skip
      refine aw_aload_n (pc := 1824) (i := 3) hC1 dL_law__1824 rfl rfl ?_
      refine aw_iconst (pc := 1825) (v := 0) hC1 dL_law__1825 ic0 ?_
      refine aw_laload (pc := 1826) hC1 dL_law__1826 ?_
      refine aw_iload (pc := 1827) hC1 dL_law__1827 rfl ?_
      refine aw_i2l (pc := 1829) hC1 dL_law__1829 ?_
      refine aw_lcmp (pc := 1830) hC1 dL_law__1830 ?_
      refine aw_if_eq (pc := 1831) (tgt := 1836) hC1 dL_law__1831 (by decide) (fun _ => ?_) (fun _ => ?_)
      · skip
        refine aw_goto (pc := 1836) (tgt := 2965) hC1 dL_law__1836 (by decide) ?_
        exact aw_drop [5, 6] (hK i q2.2)
      · skip
        exact aw_none
    · skip
      refine aw_goto (pc := 1836) (tgt := 2965) hC1 dL_law__1836 (by decide) ?_
      exact aw_drop [5, 6] (hK i q2.2)
  · skip
    exact aw_none
theorem dL_law__1839 : decode cL_law_ 1839 = .ok (.aload_n 1, 1) := by decide +kernel
theorem dL_law__1840 : decode cL_law_ 1840 = .ok (.invokevirtual 239, 3) := by decide +kernel
theorem dL_law__1843 : decode cL_law_ 1843 = .ok (.aload_n 2, 1) := by decide +kernel
theorem dL_law__1844 : decode cL_law_ 1844 = .ok (.invokevirtual 242, 3) := by decide +kernel
theorem dL_law__1847 : decode cL_law_ 1847 = .ok (.if_icmp .eq 1118, 3) := by decide +kernel
def lc_28 (xs : Nat → Int32) (n : Nat) (K : Int32 → Mem → Option Unit) (i : Int32) (μ : Mem) : Option Unit := (f_X9_mend μ).bind fun (q1 : Int32) => (f_X10_mend μ).bind fun (q2 : Int32 × Mem) => if q1 = q2.1 then (K i q2.2) else (none)
set_option maxHeartbeats 4000000 in
set_option maxRecDepth 100000 in
theorem hlc_28 {G : GG} {C : CX} {Q : Unit → State → Prop} {kc ks b n : Nat} {xs : Nat → Int32} {K : Int32 → Mem → Option Unit} (hl0 : C.2.1.stackTraces = false) (hC : CO G C "SaturdayKeepLaw" cL_law_ 7 62 kc ks (some .boolean)) (hC1 : CO G C "SaturdayKeepLaw" cL_law_ 7 62 (kc + 1) (ks + 6) (some .boolean)) (hX : SC G C b n xs) (hK : ∀ i μ, AW G C Q (kc + 1) (ks + 6) 7 μ 2965 [some (.ref b), some (.ref (gad G 0 0)), some (.ref (gad G 0 12)), some (.ref (gad G 0 22)), some (.int i), none, none] [] (K i μ)) (i : Int32) (μ : Mem) : AW G C Q kc ks 7 μ 1839 [some (.ref b), some (.ref (gad G 0 0)), some (.ref (gad G 0 12)), some (.ref (gad G 0 22)), some (.int i), none, none] [] (lc_28 xs n K i μ) := by
  have hK0 := fun i μ => aw_wide (Nat.le_succ kc) (Nat.le_add_right ks 6) (hK i μ)
  delta lc_28
  refine aw_aload_n (pc := 1839) (i := 1) hC dL_law__1839 rfl rfl ?_
  refine aw_callVR (pc := 1840) (As := []) hC mb_X9_mend kw435 (by decide) (c_X9_mend G C.2.1   μ ) (v0 (j := 0) (by decide)) rfl rfl rfl (Nat.le_of_ble_eq_true rfl) dL_law__1840 (fun q1 => ?_)
  refine aw_aload_n (pc := 1843) (i := 2) hC dL_law__1843 rfl rfl ?_
  refine aw_callVI (pc := 1844) (As := []) hC mb_X10_mend kw1725 (by decide) (c_X10_mend G C.2.1   μ ) (v0 (j := 12) (by decide)) rfl rfl rfl (Nat.le_of_ble_eq_true rfl) dL_law__1844 (fun q2 => ?_)
  refine aw_icmp_eq (pc := 1847) (tgt := 2965) hC dL_law__1847 (by decide) (fun _ => ?_) (fun _ => ?_)
  · skip
    exact hK0 i q2.2
  · skip
    exact aw_none
theorem dL_law__1852 : decode cL_law_ 1852 = .ok (.aload_n 1, 1) := by decide +kernel
theorem dL_law__1853 : decode cL_law_ 1853 = .ok (.invokevirtual 243, 3) := by decide +kernel
theorem dL_law__1856 : decode cL_law_ 1856 = .ok (.aload_n 2, 1) := by decide +kernel
theorem dL_law__1857 : decode cL_law_ 1857 = .ok (.invokevirtual 246, 3) := by decide +kernel
theorem dL_law__1860 : decode cL_law_ 1860 = .ok (.if_icmp .eq 1105, 3) := by decide +kernel
def lc_29 (xs : Nat → Int32) (n : Nat) (K : Int32 → Mem → Option Unit) (i : Int32) (μ : Mem) : Option Unit := (f_X9_shut μ).bind fun (q1 : Int32) => (f_X10_shut μ).bind fun (q2 : Int32 × Mem) => if q1 = q2.1 then (K i q2.2) else (none)
set_option maxHeartbeats 4000000 in
set_option maxRecDepth 100000 in
theorem hlc_29 {G : GG} {C : CX} {Q : Unit → State → Prop} {kc ks b n : Nat} {xs : Nat → Int32} {K : Int32 → Mem → Option Unit} (hl0 : C.2.1.stackTraces = false) (hC : CO G C "SaturdayKeepLaw" cL_law_ 7 62 kc ks (some .boolean)) (hC1 : CO G C "SaturdayKeepLaw" cL_law_ 7 62 (kc + 1) (ks + 6) (some .boolean)) (hX : SC G C b n xs) (hK : ∀ i μ, AW G C Q (kc + 1) (ks + 6) 7 μ 2965 [some (.ref b), some (.ref (gad G 0 0)), some (.ref (gad G 0 12)), some (.ref (gad G 0 22)), some (.int i), none, none] [] (K i μ)) (i : Int32) (μ : Mem) : AW G C Q kc ks 7 μ 1852 [some (.ref b), some (.ref (gad G 0 0)), some (.ref (gad G 0 12)), some (.ref (gad G 0 22)), some (.int i), none, none] [] (lc_29 xs n K i μ) := by
  have hK0 := fun i μ => aw_wide (Nat.le_succ kc) (Nat.le_add_right ks 6) (hK i μ)
  delta lc_29
  refine aw_aload_n (pc := 1852) (i := 1) hC dL_law__1852 rfl rfl ?_
  refine aw_callVR (pc := 1853) (As := []) hC mb_X9_shut kw459 (by decide) (c_X9_shut G C.2.1   μ ) (v0 (j := 0) (by decide)) rfl rfl rfl (Nat.le_of_ble_eq_true rfl) dL_law__1853 (fun q1 => ?_)
  refine aw_aload_n (pc := 1856) (i := 2) hC dL_law__1856 rfl rfl ?_
  refine aw_callVI (pc := 1857) (As := []) hC mb_X10_shut kw1729 (by decide) (c_X10_shut G C.2.1   μ ) (v0 (j := 12) (by decide)) rfl rfl rfl (Nat.le_of_ble_eq_true rfl) dL_law__1857 (fun q2 => ?_)
  refine aw_icmp_eq (pc := 1860) (tgt := 2965) hC dL_law__1860 (by decide) (fun _ => ?_) (fun _ => ?_)
  · skip
    exact hK0 i q2.2
  · skip
    exact aw_none
theorem dL_law__1865 : decode cL_law_ 1865 = .ok (.aload_n 1, 1) := by decide +kernel
theorem dL_law__1866 : decode cL_law_ 1866 = .ok (.invokevirtual 247, 3) := by decide +kernel
theorem dL_law__1869 : decode cL_law_ 1869 = .ok (.aload_n 2, 1) := by decide +kernel
theorem dL_law__1870 : decode cL_law_ 1870 = .ok (.invokevirtual 250, 3) := by decide +kernel
theorem dL_law__1873 : decode cL_law_ 1873 = .ok (.if_icmp .eq 1092, 3) := by decide +kernel
def lc_30 (xs : Nat → Int32) (n : Nat) (K : Int32 → Mem → Option Unit) (i : Int32) (μ : Mem) : Option Unit := (f_X9_quiet μ).bind fun (q1 : Int32) => (f_X10_quiet μ).bind fun (q2 : Int32 × Mem) => if q1 = q2.1 then (K i q2.2) else (none)
set_option maxHeartbeats 4000000 in
set_option maxRecDepth 100000 in
theorem hlc_30 {G : GG} {C : CX} {Q : Unit → State → Prop} {kc ks b n : Nat} {xs : Nat → Int32} {K : Int32 → Mem → Option Unit} (hl0 : C.2.1.stackTraces = false) (hC : CO G C "SaturdayKeepLaw" cL_law_ 7 62 kc ks (some .boolean)) (hC1 : CO G C "SaturdayKeepLaw" cL_law_ 7 62 (kc + 1) (ks + 6) (some .boolean)) (hX : SC G C b n xs) (hK : ∀ i μ, AW G C Q (kc + 1) (ks + 6) 7 μ 2965 [some (.ref b), some (.ref (gad G 0 0)), some (.ref (gad G 0 12)), some (.ref (gad G 0 22)), some (.int i), none, none] [] (K i μ)) (i : Int32) (μ : Mem) : AW G C Q kc ks 7 μ 1865 [some (.ref b), some (.ref (gad G 0 0)), some (.ref (gad G 0 12)), some (.ref (gad G 0 22)), some (.int i), none, none] [] (lc_30 xs n K i μ) := by
  have hK0 := fun i μ => aw_wide (Nat.le_succ kc) (Nat.le_add_right ks 6) (hK i μ)
  delta lc_30
  refine aw_aload_n (pc := 1865) (i := 1) hC dL_law__1865 rfl rfl ?_
  refine aw_callVR (pc := 1866) (As := []) hC mb_X9_quiet kw471 (by decide) (c_X9_quiet G C.2.1   μ ) (v0 (j := 0) (by decide)) rfl rfl rfl (Nat.le_of_ble_eq_true rfl) dL_law__1866 (fun q1 => ?_)
  refine aw_aload_n (pc := 1869) (i := 2) hC dL_law__1869 rfl rfl ?_
  refine aw_callVI (pc := 1870) (As := []) hC mb_X10_quiet kw1737 (by decide) (c_X10_quiet G C.2.1   μ ) (v0 (j := 12) (by decide)) rfl rfl rfl (Nat.le_of_ble_eq_true rfl) dL_law__1870 (fun q2 => ?_)
  refine aw_icmp_eq (pc := 1873) (tgt := 2965) hC dL_law__1873 (by decide) (fun _ => ?_) (fun _ => ?_)
  · skip
    exact hK0 i q2.2
  · skip
    exact aw_none
theorem dL_law__1878 : decode cL_law_ 1878 = .ok (.aload_n 1, 1) := by decide +kernel
theorem dL_law__1879 : decode cL_law_ 1879 = .ok (.invokevirtual 251, 3) := by decide +kernel
theorem dL_law__1882 : decode cL_law_ 1882 = .ok (.aload_n 2, 1) := by decide +kernel
theorem dL_law__1883 : decode cL_law_ 1883 = .ok (.invokevirtual 254, 3) := by decide +kernel
theorem dL_law__1886 : decode cL_law_ 1886 = .ok (.if_icmp .eq 1079, 3) := by decide +kernel
def lc_31 (xs : Nat → Int32) (n : Nat) (K : Int32 → Mem → Option Unit) (i : Int32) (μ : Mem) : Option Unit := (f_X9_best μ).bind fun (q1 : Int32) => (f_X10_best μ).bind fun (q2 : Int32 × Mem) => if q1 = q2.1 then (K i q2.2) else (none)
set_option maxHeartbeats 4000000 in
set_option maxRecDepth 100000 in
theorem hlc_31 {G : GG} {C : CX} {Q : Unit → State → Prop} {kc ks b n : Nat} {xs : Nat → Int32} {K : Int32 → Mem → Option Unit} (hl0 : C.2.1.stackTraces = false) (hC : CO G C "SaturdayKeepLaw" cL_law_ 7 62 kc ks (some .boolean)) (hC1 : CO G C "SaturdayKeepLaw" cL_law_ 7 62 (kc + 1) (ks + 6) (some .boolean)) (hX : SC G C b n xs) (hK : ∀ i μ, AW G C Q (kc + 1) (ks + 6) 7 μ 2965 [some (.ref b), some (.ref (gad G 0 0)), some (.ref (gad G 0 12)), some (.ref (gad G 0 22)), some (.int i), none, none] [] (K i μ)) (i : Int32) (μ : Mem) : AW G C Q kc ks 7 μ 1878 [some (.ref b), some (.ref (gad G 0 0)), some (.ref (gad G 0 12)), some (.ref (gad G 0 22)), some (.int i), none, none] [] (lc_31 xs n K i μ) := by
  have hK0 := fun i μ => aw_wide (Nat.le_succ kc) (Nat.le_add_right ks 6) (hK i μ)
  delta lc_31
  refine aw_aload_n (pc := 1878) (i := 1) hC dL_law__1878 rfl rfl ?_
  refine aw_callVR (pc := 1879) (As := []) hC mb_X9_best kw476 (by decide) (c_X9_best G C.2.1   μ ) (v0 (j := 0) (by decide)) rfl rfl rfl (Nat.le_of_ble_eq_true rfl) dL_law__1879 (fun q1 => ?_)
  refine aw_aload_n (pc := 1882) (i := 2) hC dL_law__1882 rfl rfl ?_
  refine aw_callVI (pc := 1883) (As := []) hC mb_X10_best kw1741 (by decide) (c_X10_best G C.2.1   μ ) (v0 (j := 12) (by decide)) rfl rfl rfl (Nat.le_of_ble_eq_true rfl) dL_law__1883 (fun q2 => ?_)
  refine aw_icmp_eq (pc := 1886) (tgt := 2965) hC dL_law__1886 (by decide) (fun _ => ?_) (fun _ => ?_)
  · skip
    exact hK0 i q2.2
  · skip
    exact aw_none
theorem dL_law__1891 : decode cL_law_ 1891 = .ok (.aload_n 1, 1) := by decide +kernel
theorem dL_law__1892 : decode cL_law_ 1892 = .ok (.aload_n 0, 1) := by decide +kernel
theorem dL_law__1893 : decode cL_law_ 1893 = .ok (.iload 4, 2) := by decide +kernel
theorem dL_law__1895 : decode cL_law_ 1895 = .ok (.iconst 1, 1) := by decide +kernel
theorem dL_law__1896 : decode cL_law_ 1896 = .ok (.iadd, 1) := by decide +kernel
theorem dL_law__1897 : decode cL_law_ 1897 = .ok (.iaload, 1) := by decide +kernel
theorem dL_law__1898 : decode cL_law_ 1898 = .ok (.invokevirtual 255, 3) := by decide +kernel
theorem dL_law__1901 : decode cL_law_ 1901 = .ok (.aload_n 2, 1) := by decide +kernel
theorem dL_law__1902 : decode cL_law_ 1902 = .ok (.aload_n 0, 1) := by decide +kernel
theorem dL_law__1903 : decode cL_law_ 1903 = .ok (.iload 4, 2) := by decide +kernel
theorem dL_law__1905 : decode cL_law_ 1905 = .ok (.iconst 1, 1) := by decide +kernel
theorem dL_law__1906 : decode cL_law_ 1906 = .ok (.iadd, 1) := by decide +kernel
theorem dL_law__1907 : decode cL_law_ 1907 = .ok (.iaload, 1) := by decide +kernel
theorem dL_law__1908 : decode cL_law_ 1908 = .ok (.invokevirtual 258, 3) := by decide +kernel
theorem dL_law__1911 : decode cL_law_ 1911 = .ok (.if_icmp .eq 1054, 3) := by decide +kernel
def lc_32 (xs : Nat → Int32) (n : Nat) (K : Int32 → Mem → Option Unit) (i : Int32) (μ : Mem) : Option Unit := ix (i + 1) n ((f_X9_lodge μ (xs (i + 1).toNatClampNeg)).bind fun (q1 : Int32 × Mem) => ix (i + 1) n ((f_X10_lodge q1.2 (xs (i + 1).toNatClampNeg)).bind fun (q2 : Int32 × Mem) => if q1.1 = q2.1 then (K i q2.2) else (none)))
set_option maxHeartbeats 4000000 in
set_option maxRecDepth 100000 in
theorem hlc_32 {G : GG} {C : CX} {Q : Unit → State → Prop} {kc ks b n : Nat} {xs : Nat → Int32} {K : Int32 → Mem → Option Unit} (hl0 : C.2.1.stackTraces = false) (hC : CO G C "SaturdayKeepLaw" cL_law_ 7 62 kc ks (some .boolean)) (hC1 : CO G C "SaturdayKeepLaw" cL_law_ 7 62 (kc + 1) (ks + 6) (some .boolean)) (hX : SC G C b n xs) (hK : ∀ i μ, AW G C Q (kc + 1) (ks + 6) 7 μ 2965 [some (.ref b), some (.ref (gad G 0 0)), some (.ref (gad G 0 12)), some (.ref (gad G 0 22)), some (.int i), none, none] [] (K i μ)) (i : Int32) (μ : Mem) : AW G C Q kc ks 7 μ 1891 [some (.ref b), some (.ref (gad G 0 0)), some (.ref (gad G 0 12)), some (.ref (gad G 0 22)), some (.int i), none, none] [] (lc_32 xs n K i μ) := by
  have hK0 := fun i μ => aw_wide (Nat.le_succ kc) (Nat.le_add_right ks 6) (hK i μ)
  delta lc_32
  refine aw_aload_n (pc := 1891) (i := 1) hC dL_law__1891 rfl rfl ?_
  refine aw_aload_n (pc := 1892) (i := 0) hC dL_law__1892 rfl rfl ?_
  refine aw_iload (pc := 1893) hC dL_law__1893 rfl ?_
  refine aw_iconst (pc := 1895) (v := 1) hC dL_law__1895 ic1 ?_
  refine aw_iadd (pc := 1896) hC dL_law__1896 ?_
  refine aw_sld (pc := 1897) hC hX dL_law__1897 ?_
  refine aw_callVI (pc := 1898) (As := [.int (xs (i + 1).toNatClampNeg)]) hC mb_X9_lodge kw499 (by decide) (c_X9_lodge G C.2.1   μ (xs (i + 1).toNatClampNeg)) (v0 (j := 0) (by decide)) rfl rfl rfl (Nat.le_of_ble_eq_true rfl) dL_law__1898 (fun q1 => ?_)
  refine aw_aload_n (pc := 1901) (i := 2) hC dL_law__1901 rfl rfl ?_
  refine aw_aload_n (pc := 1902) (i := 0) hC dL_law__1902 rfl rfl ?_
  refine aw_iload (pc := 1903) hC dL_law__1903 rfl ?_
  refine aw_iconst (pc := 1905) (v := 1) hC dL_law__1905 ic1 ?_
  refine aw_iadd (pc := 1906) hC dL_law__1906 ?_
  refine aw_sld (pc := 1907) hC hX dL_law__1907 ?_
  refine aw_callVI (pc := 1908) (As := [.int (xs (i + 1).toNatClampNeg)]) hC mb_X10_lodge kw1749 (by decide) (c_X10_lodge G C.2.1   q1.2 (xs (i + 1).toNatClampNeg)) (v0 (j := 12) (by decide)) rfl rfl rfl (Nat.le_of_ble_eq_true rfl) dL_law__1908 (fun q2 => ?_)
  refine aw_icmp_eq (pc := 1911) (tgt := 2965) hC dL_law__1911 (by decide) (fun _ => ?_) (fun _ => ?_)
  · skip
    exact hK0 i q2.2
  · skip
    exact aw_none
theorem dL_law__1916 : decode cL_law_ 1916 = .ok (.aload_n 1, 1) := by decide +kernel
theorem dL_law__1917 : decode cL_law_ 1917 = .ok (.aload_n 0, 1) := by decide +kernel
theorem dL_law__1918 : decode cL_law_ 1918 = .ok (.iload 4, 2) := by decide +kernel
theorem dL_law__1920 : decode cL_law_ 1920 = .ok (.iconst 1, 1) := by decide +kernel
theorem dL_law__1921 : decode cL_law_ 1921 = .ok (.iadd, 1) := by decide +kernel
theorem dL_law__1922 : decode cL_law_ 1922 = .ok (.iaload, 1) := by decide +kernel
theorem dL_law__1923 : decode cL_law_ 1923 = .ok (.aload_n 3, 1) := by decide +kernel
theorem dL_law__1924 : decode cL_law_ 1924 = .ok (.invokestatic 259, 3) := by decide +kernel
theorem dL_law__1927 : decode cL_law_ 1927 = .ok (.istore 5, 2) := by decide +kernel
theorem dL_law__1929 : decode cL_law_ 1929 = .ok (.aload_n 2, 1) := by decide +kernel
theorem dL_law__1930 : decode cL_law_ 1930 = .ok (.aload_n 0, 1) := by decide +kernel
theorem dL_law__1931 : decode cL_law_ 1931 = .ok (.iload 4, 2) := by decide +kernel
theorem dL_law__1933 : decode cL_law_ 1933 = .ok (.iconst 1, 1) := by decide +kernel
theorem dL_law__1934 : decode cL_law_ 1934 = .ok (.iadd, 1) := by decide +kernel
theorem dL_law__1935 : decode cL_law_ 1935 = .ok (.iaload, 1) := by decide +kernel
theorem dL_law__1936 : decode cL_law_ 1936 = .ok (.invokevirtual 261, 3) := by decide +kernel
theorem dL_law__1939 : decode cL_law_ 1939 = .ok (.istore 6, 2) := by decide +kernel
theorem dL_law__1941 : decode cL_law_ 1941 = .ok (.aload_n 2, 1) := by decide +kernel
theorem dL_law__1942 : decode cL_law_ 1942 = .ok (.invokevirtual 151, 3) := by decide +kernel
theorem dL_law__1945 : decode cL_law_ 1945 = .ok (.iload 5, 2) := by decide +kernel
theorem dL_law__1947 : decode cL_law_ 1947 = .ok (.if_icmp .eq 5, 3) := by decide +kernel
theorem dL_law__1952 : decode cL_law_ 1952 = .ok (.iload 5, 2) := by decide +kernel
theorem dL_law__1954 : decode cL_law_ 1954 = .ok (.ifCond .ne 15, 3) := by decide +kernel
theorem dL_law__1957 : decode cL_law_ 1957 = .ok (.aload_n 3, 1) := by decide +kernel
theorem dL_law__1958 : decode cL_law_ 1958 = .ok (.iconst 0, 1) := by decide +kernel
theorem dL_law__1959 : decode cL_law_ 1959 = .ok (.laload, 1) := by decide +kernel
theorem dL_law__1960 : decode cL_law_ 1960 = .ok (.iload 6, 2) := by decide +kernel
theorem dL_law__1962 : decode cL_law_ 1962 = .ok (.i2l, 1) := by decide +kernel
theorem dL_law__1963 : decode cL_law_ 1963 = .ok (.lcmp, 1) := by decide +kernel
theorem dL_law__1964 : decode cL_law_ 1964 = .ok (.ifCond .eq 5, 3) := by decide +kernel
theorem dL_law__1969 : decode cL_law_ 1969 = .ok (.goto 996, 3) := by decide +kernel
def lc_33 (xs : Nat → Int32) (n : Nat) (K : Int32 → Mem → Option Unit) (i : Int32) (μ : Mem) : Option Unit := ix (i + 1) n ((f_L_rests μ (xs (i + 1).toNatClampNeg)).bind fun (q1 : Int32 × Mem) => ix (i + 1) n ((f_X10_rests q1.2 (xs (i + 1).toNatClampNeg)).bind fun (q2 : Int32 × Mem) => (f_X10_thrown q2.2).bind fun (q3 : Int32) => if q3 = q1.1 then (if q1.1 = 0 then (ix 0 1 (if (lg_cmp ((q2.2 0 22 (Int32.toNatClampNeg 0)).toInt64) q2.1.toInt64) = 0 then (K i q2.2) else (none))) else (K i q2.2)) else (none)))
set_option maxHeartbeats 4000000 in
set_option maxRecDepth 100000 in
theorem hlc_33 {G : GG} {C : CX} {Q : Unit → State → Prop} {kc ks b n : Nat} {xs : Nat → Int32} {K : Int32 → Mem → Option Unit} (hl0 : C.2.1.stackTraces = false) (hC : CO G C "SaturdayKeepLaw" cL_law_ 7 62 kc ks (some .boolean)) (hC1 : CO G C "SaturdayKeepLaw" cL_law_ 7 62 (kc + 1) (ks + 6) (some .boolean)) (hX : SC G C b n xs) (hK : ∀ i μ, AW G C Q (kc + 1) (ks + 6) 7 μ 2965 [some (.ref b), some (.ref (gad G 0 0)), some (.ref (gad G 0 12)), some (.ref (gad G 0 22)), some (.int i), none, none] [] (K i μ)) (i : Int32) (μ : Mem) : AW G C Q kc ks 7 μ 1916 [some (.ref b), some (.ref (gad G 0 0)), some (.ref (gad G 0 12)), some (.ref (gad G 0 22)), some (.int i), none, none] [] (lc_33 xs n K i μ) := by
  have hK0 := fun i μ => aw_wide (Nat.le_succ kc) (Nat.le_add_right ks 6) (hK i μ)
  delta lc_33
  refine aw_aload_n (pc := 1916) (i := 1) hC dL_law__1916 rfl rfl ?_
  refine aw_aload_n (pc := 1917) (i := 0) hC dL_law__1917 rfl rfl ?_
  refine aw_iload (pc := 1918) hC dL_law__1918 rfl ?_
  refine aw_iconst (pc := 1920) (v := 1) hC dL_law__1920 ic1 ?_
  refine aw_iadd (pc := 1921) hC dL_law__1921 ?_
  refine aw_sld (pc := 1922) hC hX dL_law__1922 ?_
  refine aw_aload_n (pc := 1923) (i := 3) hC dL_law__1923 rfl rfl ?_
  refine aw_callSH (pc := 1924) (As := [.ref (gad G 0 0), .int (xs (i + 1).toNatClampNeg), .ref (gad G 0 22)]) hC hC1 mw_L_rests kw1152 (by decide) (c_L_rests G C.2.1 hl0 μ (xs (i + 1).toNatClampNeg)) rfl (Nat.le_of_ble_eq_true rfl) dL_law__1924 (fun q1 => ?_)
  refine aw_istore (pc := 1927) hC1 dL_law__1927 rfl (by decide) ?_
  refine aw_aload_n (pc := 1929) (i := 2) hC1 dL_law__1929 rfl rfl ?_
  refine aw_aload_n (pc := 1930) (i := 0) hC1 dL_law__1930 rfl rfl ?_
  refine aw_iload (pc := 1931) hC1 dL_law__1931 rfl ?_
  refine aw_iconst (pc := 1933) (v := 1) hC1 dL_law__1933 ic1 ?_
  refine aw_iadd (pc := 1934) hC1 dL_law__1934 ?_
  refine aw_sld (pc := 1935) hC1 hX dL_law__1935 ?_
  refine aw_callVI (pc := 1936) (As := [.int (xs (i + 1).toNatClampNeg)]) hC1 mb_X10_rests kw1758 (by decide) (c_X10_rests G C.2.1   q1.2 (xs (i + 1).toNatClampNeg)) (v0 (j := 12) (by decide)) rfl rfl rfl (Nat.le_of_ble_eq_true rfl) dL_law__1936 (fun q2 => ?_)
  refine aw_istore (pc := 1939) hC1 dL_law__1939 rfl (by decide) ?_
  refine aw_aload_n (pc := 1941) (i := 2) hC1 dL_law__1941 rfl rfl ?_
  refine aw_callVR (pc := 1942) (As := []) hC1 mb_X10_thrown kw1382 (by decide) (c_X10_thrown G C.2.1   q2.2 ) (v0 (j := 12) (by decide)) rfl rfl rfl (Nat.le_of_ble_eq_true rfl) dL_law__1942 (fun q3 => ?_)
  refine aw_iload (pc := 1945) hC1 dL_law__1945 rfl ?_
  refine aw_icmp_eq (pc := 1947) (tgt := 1952) hC1 dL_law__1947 (by decide) (fun _ => ?_) (fun _ => ?_)
  · skip
    refine aw_iload (pc := 1952) hC1 dL_law__1952 rfl ?_
    refine aw_if_ne (pc := 1954) (tgt := 1969) hC1 dL_law__1954 (by decide) (fun _ => ?_) (fun _ => ?_)
    · skip
      refine aw_aload_n (pc := 1957) (i := 3) hC1 dL_law__1957 rfl rfl ?_
      refine aw_iconst (pc := 1958) (v := 0) hC1 dL_law__1958 ic0 ?_
      refine aw_laload (pc := 1959) hC1 dL_law__1959 ?_
      refine aw_iload (pc := 1960) hC1 dL_law__1960 rfl ?_
      refine aw_i2l (pc := 1962) hC1 dL_law__1962 ?_
      refine aw_lcmp (pc := 1963) hC1 dL_law__1963 ?_
      refine aw_if_eq (pc := 1964) (tgt := 1969) hC1 dL_law__1964 (by decide) (fun _ => ?_) (fun _ => ?_)
      · skip
        refine aw_goto (pc := 1969) (tgt := 2965) hC1 dL_law__1969 (by decide) ?_
        exact aw_drop [5, 6] (hK i q2.2)
      · skip
        exact aw_none
    · skip
      refine aw_goto (pc := 1969) (tgt := 2965) hC1 dL_law__1969 (by decide) ?_
      exact aw_drop [5, 6] (hK i q2.2)
  · skip
    exact aw_none
theorem dL_law__1972 : decode cL_law_ 1972 = .ok (.aload_n 1, 1) := by decide +kernel
theorem dL_law__1973 : decode cL_law_ 1973 = .ok (.aload_n 3, 1) := by decide +kernel
theorem dL_law__1974 : decode cL_law_ 1974 = .ok (.invokestatic 262, 3) := by decide +kernel
theorem dL_law__1977 : decode cL_law_ 1977 = .ok (.istore 5, 2) := by decide +kernel
theorem dL_law__1979 : decode cL_law_ 1979 = .ok (.aload_n 2, 1) := by decide +kernel
theorem dL_law__1980 : decode cL_law_ 1980 = .ok (.invokevirtual 264, 3) := by decide +kernel
theorem dL_law__1983 : decode cL_law_ 1983 = .ok (.istore 6, 2) := by decide +kernel
theorem dL_law__1985 : decode cL_law_ 1985 = .ok (.aload_n 2, 1) := by decide +kernel
theorem dL_law__1986 : decode cL_law_ 1986 = .ok (.invokevirtual 151, 3) := by decide +kernel
theorem dL_law__1989 : decode cL_law_ 1989 = .ok (.iload 5, 2) := by decide +kernel
theorem dL_law__1991 : decode cL_law_ 1991 = .ok (.if_icmp .eq 5, 3) := by decide +kernel
theorem dL_law__1996 : decode cL_law_ 1996 = .ok (.iload 5, 2) := by decide +kernel
theorem dL_law__1998 : decode cL_law_ 1998 = .ok (.ifCond .ne 15, 3) := by decide +kernel
theorem dL_law__2001 : decode cL_law_ 2001 = .ok (.aload_n 3, 1) := by decide +kernel
theorem dL_law__2002 : decode cL_law_ 2002 = .ok (.iconst 0, 1) := by decide +kernel
theorem dL_law__2003 : decode cL_law_ 2003 = .ok (.laload, 1) := by decide +kernel
theorem dL_law__2004 : decode cL_law_ 2004 = .ok (.iload 6, 2) := by decide +kernel
theorem dL_law__2006 : decode cL_law_ 2006 = .ok (.i2l, 1) := by decide +kernel
theorem dL_law__2007 : decode cL_law_ 2007 = .ok (.lcmp, 1) := by decide +kernel
theorem dL_law__2008 : decode cL_law_ 2008 = .ok (.ifCond .eq 5, 3) := by decide +kernel
theorem dL_law__2013 : decode cL_law_ 2013 = .ok (.goto 952, 3) := by decide +kernel
def lc_34 (xs : Nat → Int32) (n : Nat) (K : Int32 → Mem → Option Unit) (i : Int32) (μ : Mem) : Option Unit := (f_L_shifts μ).bind fun (q1 : Int32 × Mem) => (f_X10_shifts q1.2).bind fun (q2 : Int32 × Mem) => (f_X10_thrown q2.2).bind fun (q3 : Int32) => if q3 = q1.1 then (if q1.1 = 0 then (ix 0 1 (if (lg_cmp ((q2.2 0 22 (Int32.toNatClampNeg 0)).toInt64) q2.1.toInt64) = 0 then (K i q2.2) else (none))) else (K i q2.2)) else (none)
set_option maxHeartbeats 4000000 in
set_option maxRecDepth 100000 in
theorem hlc_34 {G : GG} {C : CX} {Q : Unit → State → Prop} {kc ks b n : Nat} {xs : Nat → Int32} {K : Int32 → Mem → Option Unit} (hl0 : C.2.1.stackTraces = false) (hC : CO G C "SaturdayKeepLaw" cL_law_ 7 62 kc ks (some .boolean)) (hC1 : CO G C "SaturdayKeepLaw" cL_law_ 7 62 (kc + 1) (ks + 6) (some .boolean)) (hX : SC G C b n xs) (hK : ∀ i μ, AW G C Q (kc + 1) (ks + 6) 7 μ 2965 [some (.ref b), some (.ref (gad G 0 0)), some (.ref (gad G 0 12)), some (.ref (gad G 0 22)), some (.int i), none, none] [] (K i μ)) (i : Int32) (μ : Mem) : AW G C Q kc ks 7 μ 1972 [some (.ref b), some (.ref (gad G 0 0)), some (.ref (gad G 0 12)), some (.ref (gad G 0 22)), some (.int i), none, none] [] (lc_34 xs n K i μ) := by
  have hK0 := fun i μ => aw_wide (Nat.le_succ kc) (Nat.le_add_right ks 6) (hK i μ)
  delta lc_34
  refine aw_aload_n (pc := 1972) (i := 1) hC dL_law__1972 rfl rfl ?_
  refine aw_aload_n (pc := 1973) (i := 3) hC dL_law__1973 rfl rfl ?_
  refine aw_callSH (pc := 1974) (As := [.ref (gad G 0 0), .ref (gad G 0 22)]) hC hC1 mw_L_shifts kw1165 (by decide) (c_L_shifts G C.2.1 hl0 μ ) rfl (Nat.le_of_ble_eq_true rfl) dL_law__1974 (fun q1 => ?_)
  refine aw_istore (pc := 1977) hC1 dL_law__1977 rfl (by decide) ?_
  refine aw_aload_n (pc := 1979) (i := 2) hC1 dL_law__1979 rfl rfl ?_
  refine aw_callVI (pc := 1980) (As := []) hC1 mb_X10_shifts kw1770 (by decide) (c_X10_shifts G C.2.1   q1.2 ) (v0 (j := 12) (by decide)) rfl rfl rfl (Nat.le_of_ble_eq_true rfl) dL_law__1980 (fun q2 => ?_)
  refine aw_istore (pc := 1983) hC1 dL_law__1983 rfl (by decide) ?_
  refine aw_aload_n (pc := 1985) (i := 2) hC1 dL_law__1985 rfl rfl ?_
  refine aw_callVR (pc := 1986) (As := []) hC1 mb_X10_thrown kw1382 (by decide) (c_X10_thrown G C.2.1   q2.2 ) (v0 (j := 12) (by decide)) rfl rfl rfl (Nat.le_of_ble_eq_true rfl) dL_law__1986 (fun q3 => ?_)
  refine aw_iload (pc := 1989) hC1 dL_law__1989 rfl ?_
  refine aw_icmp_eq (pc := 1991) (tgt := 1996) hC1 dL_law__1991 (by decide) (fun _ => ?_) (fun _ => ?_)
  · skip
    refine aw_iload (pc := 1996) hC1 dL_law__1996 rfl ?_
    refine aw_if_ne (pc := 1998) (tgt := 2013) hC1 dL_law__1998 (by decide) (fun _ => ?_) (fun _ => ?_)
    · skip
      refine aw_aload_n (pc := 2001) (i := 3) hC1 dL_law__2001 rfl rfl ?_
      refine aw_iconst (pc := 2002) (v := 0) hC1 dL_law__2002 ic0 ?_
      refine aw_laload (pc := 2003) hC1 dL_law__2003 ?_
      refine aw_iload (pc := 2004) hC1 dL_law__2004 rfl ?_
      refine aw_i2l (pc := 2006) hC1 dL_law__2006 ?_
      refine aw_lcmp (pc := 2007) hC1 dL_law__2007 ?_
      refine aw_if_eq (pc := 2008) (tgt := 2013) hC1 dL_law__2008 (by decide) (fun _ => ?_) (fun _ => ?_)
      · skip
        refine aw_goto (pc := 2013) (tgt := 2965) hC1 dL_law__2013 (by decide) ?_
        exact aw_drop [5, 6] (hK i q2.2)
      · skip
        exact aw_none
    · skip
      refine aw_goto (pc := 2013) (tgt := 2965) hC1 dL_law__2013 (by decide) ?_
      exact aw_drop [5, 6] (hK i q2.2)
  · skip
    exact aw_none
theorem dL_law__2016 : decode cL_law_ 2016 = .ok (.aload_n 1, 1) := by decide +kernel
theorem dL_law__2017 : decode cL_law_ 2017 = .ok (.aload_n 3, 1) := by decide +kernel
theorem dL_law__2018 : decode cL_law_ 2018 = .ok (.invokestatic 265, 3) := by decide +kernel
theorem dL_law__2021 : decode cL_law_ 2021 = .ok (.istore 5, 2) := by decide +kernel
theorem dL_law__2023 : decode cL_law_ 2023 = .ok (.aload_n 2, 1) := by decide +kernel
theorem dL_law__2024 : decode cL_law_ 2024 = .ok (.invokevirtual 267, 3) := by decide +kernel
theorem dL_law__2027 : decode cL_law_ 2027 = .ok (.istore 6, 2) := by decide +kernel
theorem dL_law__2029 : decode cL_law_ 2029 = .ok (.aload_n 2, 1) := by decide +kernel
theorem dL_law__2030 : decode cL_law_ 2030 = .ok (.invokevirtual 151, 3) := by decide +kernel
theorem dL_law__2033 : decode cL_law_ 2033 = .ok (.iload 5, 2) := by decide +kernel
theorem dL_law__2035 : decode cL_law_ 2035 = .ok (.if_icmp .eq 5, 3) := by decide +kernel
theorem dL_law__2040 : decode cL_law_ 2040 = .ok (.iload 5, 2) := by decide +kernel
theorem dL_law__2042 : decode cL_law_ 2042 = .ok (.ifCond .ne 15, 3) := by decide +kernel
theorem dL_law__2045 : decode cL_law_ 2045 = .ok (.aload_n 3, 1) := by decide +kernel
theorem dL_law__2046 : decode cL_law_ 2046 = .ok (.iconst 0, 1) := by decide +kernel
theorem dL_law__2047 : decode cL_law_ 2047 = .ok (.laload, 1) := by decide +kernel
theorem dL_law__2048 : decode cL_law_ 2048 = .ok (.iload 6, 2) := by decide +kernel
theorem dL_law__2050 : decode cL_law_ 2050 = .ok (.i2l, 1) := by decide +kernel
theorem dL_law__2051 : decode cL_law_ 2051 = .ok (.lcmp, 1) := by decide +kernel
theorem dL_law__2052 : decode cL_law_ 2052 = .ok (.ifCond .eq 5, 3) := by decide +kernel
theorem dL_law__2057 : decode cL_law_ 2057 = .ok (.goto 908, 3) := by decide +kernel
def lc_35 (xs : Nat → Int32) (n : Nat) (K : Int32 → Mem → Option Unit) (i : Int32) (μ : Mem) : Option Unit := (f_L_ask μ).bind fun (q1 : Int32 × Mem) => (f_X10_ask q1.2).bind fun (q2 : Int32 × Mem) => (f_X10_thrown q2.2).bind fun (q3 : Int32) => if q3 = q1.1 then (if q1.1 = 0 then (ix 0 1 (if (lg_cmp ((q2.2 0 22 (Int32.toNatClampNeg 0)).toInt64) q2.1.toInt64) = 0 then (K i q2.2) else (none))) else (K i q2.2)) else (none)
set_option maxHeartbeats 4000000 in
set_option maxRecDepth 100000 in
theorem hlc_35 {G : GG} {C : CX} {Q : Unit → State → Prop} {kc ks b n : Nat} {xs : Nat → Int32} {K : Int32 → Mem → Option Unit} (hl0 : C.2.1.stackTraces = false) (hC : CO G C "SaturdayKeepLaw" cL_law_ 7 62 kc ks (some .boolean)) (hC1 : CO G C "SaturdayKeepLaw" cL_law_ 7 62 (kc + 1) (ks + 6) (some .boolean)) (hX : SC G C b n xs) (hK : ∀ i μ, AW G C Q (kc + 1) (ks + 6) 7 μ 2965 [some (.ref b), some (.ref (gad G 0 0)), some (.ref (gad G 0 12)), some (.ref (gad G 0 22)), some (.int i), none, none] [] (K i μ)) (i : Int32) (μ : Mem) : AW G C Q kc ks 7 μ 2016 [some (.ref b), some (.ref (gad G 0 0)), some (.ref (gad G 0 12)), some (.ref (gad G 0 22)), some (.int i), none, none] [] (lc_35 xs n K i μ) := by
  have hK0 := fun i μ => aw_wide (Nat.le_succ kc) (Nat.le_add_right ks 6) (hK i μ)
  delta lc_35
  refine aw_aload_n (pc := 2016) (i := 1) hC dL_law__2016 rfl rfl ?_
  refine aw_aload_n (pc := 2017) (i := 3) hC dL_law__2017 rfl rfl ?_
  refine aw_callSH (pc := 2018) (As := [.ref (gad G 0 0), .ref (gad G 0 22)]) hC hC1 mw_L_ask kw1183 (by decide) (c_L_ask G C.2.1 hl0 μ ) rfl (Nat.le_of_ble_eq_true rfl) dL_law__2018 (fun q1 => ?_)
  refine aw_istore (pc := 2021) hC1 dL_law__2021 rfl (by decide) ?_
  refine aw_aload_n (pc := 2023) (i := 2) hC1 dL_law__2023 rfl rfl ?_
  refine aw_callVI (pc := 2024) (As := []) hC1 mb_X10_ask kw1782 (by decide) (c_X10_ask G C.2.1   q1.2 ) (v0 (j := 12) (by decide)) rfl rfl rfl (Nat.le_of_ble_eq_true rfl) dL_law__2024 (fun q2 => ?_)
  refine aw_istore (pc := 2027) hC1 dL_law__2027 rfl (by decide) ?_
  refine aw_aload_n (pc := 2029) (i := 2) hC1 dL_law__2029 rfl rfl ?_
  refine aw_callVR (pc := 2030) (As := []) hC1 mb_X10_thrown kw1382 (by decide) (c_X10_thrown G C.2.1   q2.2 ) (v0 (j := 12) (by decide)) rfl rfl rfl (Nat.le_of_ble_eq_true rfl) dL_law__2030 (fun q3 => ?_)
  refine aw_iload (pc := 2033) hC1 dL_law__2033 rfl ?_
  refine aw_icmp_eq (pc := 2035) (tgt := 2040) hC1 dL_law__2035 (by decide) (fun _ => ?_) (fun _ => ?_)
  · skip
    refine aw_iload (pc := 2040) hC1 dL_law__2040 rfl ?_
    refine aw_if_ne (pc := 2042) (tgt := 2057) hC1 dL_law__2042 (by decide) (fun _ => ?_) (fun _ => ?_)
    · skip
      refine aw_aload_n (pc := 2045) (i := 3) hC1 dL_law__2045 rfl rfl ?_
      refine aw_iconst (pc := 2046) (v := 0) hC1 dL_law__2046 ic0 ?_
      refine aw_laload (pc := 2047) hC1 dL_law__2047 ?_
      refine aw_iload (pc := 2048) hC1 dL_law__2048 rfl ?_
      refine aw_i2l (pc := 2050) hC1 dL_law__2050 ?_
      refine aw_lcmp (pc := 2051) hC1 dL_law__2051 ?_
      refine aw_if_eq (pc := 2052) (tgt := 2057) hC1 dL_law__2052 (by decide) (fun _ => ?_) (fun _ => ?_)
      · skip
        refine aw_goto (pc := 2057) (tgt := 2965) hC1 dL_law__2057 (by decide) ?_
        exact aw_drop [5, 6] (hK i q2.2)
      · skip
        exact aw_none
    · skip
      refine aw_goto (pc := 2057) (tgt := 2965) hC1 dL_law__2057 (by decide) ?_
      exact aw_drop [5, 6] (hK i q2.2)
  · skip
    exact aw_none
theorem dL_law__2060 : decode cL_law_ 2060 = .ok (.aload_n 1, 1) := by decide +kernel
theorem dL_law__2061 : decode cL_law_ 2061 = .ok (.aload_n 0, 1) := by decide +kernel
theorem dL_law__2062 : decode cL_law_ 2062 = .ok (.iload 4, 2) := by decide +kernel
theorem dL_law__2064 : decode cL_law_ 2064 = .ok (.iconst 1, 1) := by decide +kernel
theorem dL_law__2065 : decode cL_law_ 2065 = .ok (.iadd, 1) := by decide +kernel
theorem dL_law__2066 : decode cL_law_ 2066 = .ok (.iaload, 1) := by decide +kernel
theorem dL_law__2067 : decode cL_law_ 2067 = .ok (.ifCond .eq 7, 3) := by decide +kernel
theorem dL_law__2070 : decode cL_law_ 2070 = .ok (.iconst 1, 1) := by decide +kernel
theorem dL_law__2071 : decode cL_law_ 2071 = .ok (.goto 4, 3) := by decide +kernel
theorem dL_law__2074 : decode cL_law_ 2074 = .ok (.iconst 0, 1) := by decide +kernel
theorem dL_law__2075 : decode cL_law_ 2075 = .ok (.aload_n 3, 1) := by decide +kernel
theorem dL_law__2076 : decode cL_law_ 2076 = .ok (.invokestatic 268, 3) := by decide +kernel
theorem dL_law__2079 : decode cL_law_ 2079 = .ok (.istore 5, 2) := by decide +kernel
theorem dL_law__2081 : decode cL_law_ 2081 = .ok (.aload_n 2, 1) := by decide +kernel
theorem dL_law__2082 : decode cL_law_ 2082 = .ok (.aload_n 0, 1) := by decide +kernel
theorem dL_law__2083 : decode cL_law_ 2083 = .ok (.iload 4, 2) := by decide +kernel
theorem dL_law__2085 : decode cL_law_ 2085 = .ok (.iconst 1, 1) := by decide +kernel
theorem dL_law__2086 : decode cL_law_ 2086 = .ok (.iadd, 1) := by decide +kernel
theorem dL_law__2087 : decode cL_law_ 2087 = .ok (.iaload, 1) := by decide +kernel
theorem dL_law__2088 : decode cL_law_ 2088 = .ok (.ifCond .eq 7, 3) := by decide +kernel
theorem dL_law__2091 : decode cL_law_ 2091 = .ok (.iconst 1, 1) := by decide +kernel
theorem dL_law__2092 : decode cL_law_ 2092 = .ok (.goto 4, 3) := by decide +kernel
theorem dL_law__2095 : decode cL_law_ 2095 = .ok (.iconst 0, 1) := by decide +kernel
theorem dL_law__2096 : decode cL_law_ 2096 = .ok (.invokevirtual 271, 3) := by decide +kernel
theorem dL_law__2099 : decode cL_law_ 2099 = .ok (.istore 6, 2) := by decide +kernel
theorem dL_law__2101 : decode cL_law_ 2101 = .ok (.aload_n 2, 1) := by decide +kernel
theorem dL_law__2102 : decode cL_law_ 2102 = .ok (.invokevirtual 151, 3) := by decide +kernel
theorem dL_law__2105 : decode cL_law_ 2105 = .ok (.iload 5, 2) := by decide +kernel
theorem dL_law__2107 : decode cL_law_ 2107 = .ok (.if_icmp .eq 5, 3) := by decide +kernel
theorem dL_law__2112 : decode cL_law_ 2112 = .ok (.iload 5, 2) := by decide +kernel
theorem dL_law__2114 : decode cL_law_ 2114 = .ok (.ifCond .ne 15, 3) := by decide +kernel
theorem dL_law__2117 : decode cL_law_ 2117 = .ok (.aload_n 3, 1) := by decide +kernel
theorem dL_law__2118 : decode cL_law_ 2118 = .ok (.iconst 0, 1) := by decide +kernel
theorem dL_law__2119 : decode cL_law_ 2119 = .ok (.laload, 1) := by decide +kernel
theorem dL_law__2120 : decode cL_law_ 2120 = .ok (.iload 6, 2) := by decide +kernel
theorem dL_law__2122 : decode cL_law_ 2122 = .ok (.i2l, 1) := by decide +kernel
theorem dL_law__2123 : decode cL_law_ 2123 = .ok (.lcmp, 1) := by decide +kernel
theorem dL_law__2124 : decode cL_law_ 2124 = .ok (.ifCond .eq 5, 3) := by decide +kernel
theorem dL_law__2129 : decode cL_law_ 2129 = .ok (.goto 836, 3) := by decide +kernel
def lc_36 (xs : Nat → Int32) (n : Nat) (K : Int32 → Mem → Option Unit) (i : Int32) (μ : Mem) : Option Unit := ix (i + 1) n (nm (fun (x1 : Int32) => (f_L_bored μ x1).bind fun (q2 : Int32 × Mem) => ix (i + 1) n (nm (fun (x3 : Int32) => (f_X10_bored q2.2 x3).bind fun (q4 : Int32 × Mem) => (f_X10_thrown q4.2).bind fun (q5 : Int32) => if q5 = q2.1 then (if q2.1 = 0 then (ix 0 1 (if (lg_cmp ((q4.2 0 22 (Int32.toNatClampNeg 0)).toInt64) q4.1.toInt64) = 0 then (K i q4.2) else (none))) else (K i q4.2)) else (none)) fun (J2096 : Int32 → Option Unit) => if (xs (i + 1).toNatClampNeg) = 0 then (J2096 0) else (J2096 1))) fun (J2075 : Int32 → Option Unit) => if (xs (i + 1).toNatClampNeg) = 0 then (J2075 0) else (J2075 1))
set_option maxHeartbeats 4000000 in
set_option maxRecDepth 100000 in
theorem hlc_36 {G : GG} {C : CX} {Q : Unit → State → Prop} {kc ks b n : Nat} {xs : Nat → Int32} {K : Int32 → Mem → Option Unit} (hl0 : C.2.1.stackTraces = false) (hC : CO G C "SaturdayKeepLaw" cL_law_ 7 62 kc ks (some .boolean)) (hC1 : CO G C "SaturdayKeepLaw" cL_law_ 7 62 (kc + 1) (ks + 6) (some .boolean)) (hX : SC G C b n xs) (hK : ∀ i μ, AW G C Q (kc + 1) (ks + 6) 7 μ 2965 [some (.ref b), some (.ref (gad G 0 0)), some (.ref (gad G 0 12)), some (.ref (gad G 0 22)), some (.int i), none, none] [] (K i μ)) (i : Int32) (μ : Mem) : AW G C Q kc ks 7 μ 2060 [some (.ref b), some (.ref (gad G 0 0)), some (.ref (gad G 0 12)), some (.ref (gad G 0 22)), some (.int i), none, none] [] (lc_36 xs n K i μ) := by
  have hK0 := fun i μ => aw_wide (Nat.le_succ kc) (Nat.le_add_right ks 6) (hK i μ)
  delta lc_36
  refine aw_aload_n (pc := 2060) (i := 1) hC dL_law__2060 rfl rfl ?_
  refine aw_aload_n (pc := 2061) (i := 0) hC dL_law__2061 rfl rfl ?_
  refine aw_iload (pc := 2062) hC dL_law__2062 rfl ?_
  refine aw_iconst (pc := 2064) (v := 1) hC dL_law__2064 ic1 ?_
  refine aw_iadd (pc := 2065) hC dL_law__2065 ?_
  refine aw_sld (pc := 2066) hC hX dL_law__2066 ?_
  refine aw_nmJ (fun (J2075 : Int32 → Option Unit) => ∀ (x1 : Int32), AW G C Q kc ks 7 μ 2075 [some (.ref b), some (.ref (gad G 0 0)), some (.ref (gad G 0 12)), some (.ref (gad G 0 22)), some (.int i), none, none] [.int x1, .ref (gad G 0 0)] (J2075 x1)) (fun x1 => ?_) (fun J2075 hJ2075 => ?_)
  · skip
    refine aw_aload_n (pc := 2075) (i := 3) hC dL_law__2075 rfl rfl ?_
    refine aw_callSH (pc := 2076) (As := [.ref (gad G 0 0), .int x1, .ref (gad G 0 22)]) hC hC1 mw_L_bored kw1191 (by decide) (c_L_bored G C.2.1 hl0 μ x1) rfl (Nat.le_of_ble_eq_true rfl) dL_law__2076 (fun q2 => ?_)
    refine aw_istore (pc := 2079) hC1 dL_law__2079 rfl (by decide) ?_
    refine aw_aload_n (pc := 2081) (i := 2) hC1 dL_law__2081 rfl rfl ?_
    refine aw_aload_n (pc := 2082) (i := 0) hC1 dL_law__2082 rfl rfl ?_
    refine aw_iload (pc := 2083) hC1 dL_law__2083 rfl ?_
    refine aw_iconst (pc := 2085) (v := 1) hC1 dL_law__2085 ic1 ?_
    refine aw_iadd (pc := 2086) hC1 dL_law__2086 ?_
    refine aw_sld (pc := 2087) hC1 hX dL_law__2087 ?_
    refine aw_nmJ (fun (J2096 : Int32 → Option Unit) => ∀ (x3 : Int32), AW G C Q (kc + 1) (ks + 6) 7 q2.2 2096 [some (.ref b), some (.ref (gad G 0 0)), some (.ref (gad G 0 12)), some (.ref (gad G 0 22)), some (.int i), some (.int q2.1), none] [.int x3, .ref (gad G 0 12)] (J2096 x3)) (fun x3 => ?_) (fun J2096 hJ2096 => ?_)
    · skip
      refine aw_callVI (pc := 2096) (As := [.int x3]) hC1 mb_X10_bored kw1786 (by decide) (c_X10_bored G C.2.1   q2.2 x3) (v0 (j := 12) (by decide)) rfl rfl rfl (Nat.le_of_ble_eq_true rfl) dL_law__2096 (fun q4 => ?_)
      refine aw_istore (pc := 2099) hC1 dL_law__2099 rfl (by decide) ?_
      refine aw_aload_n (pc := 2101) (i := 2) hC1 dL_law__2101 rfl rfl ?_
      refine aw_callVR (pc := 2102) (As := []) hC1 mb_X10_thrown kw1382 (by decide) (c_X10_thrown G C.2.1   q4.2 ) (v0 (j := 12) (by decide)) rfl rfl rfl (Nat.le_of_ble_eq_true rfl) dL_law__2102 (fun q5 => ?_)
      refine aw_iload (pc := 2105) hC1 dL_law__2105 rfl ?_
      refine aw_icmp_eq (pc := 2107) (tgt := 2112) hC1 dL_law__2107 (by decide) (fun _ => ?_) (fun _ => ?_)
      · skip
        refine aw_iload (pc := 2112) hC1 dL_law__2112 rfl ?_
        refine aw_if_ne (pc := 2114) (tgt := 2129) hC1 dL_law__2114 (by decide) (fun _ => ?_) (fun _ => ?_)
        · skip
          refine aw_aload_n (pc := 2117) (i := 3) hC1 dL_law__2117 rfl rfl ?_
          refine aw_iconst (pc := 2118) (v := 0) hC1 dL_law__2118 ic0 ?_
          refine aw_laload (pc := 2119) hC1 dL_law__2119 ?_
          refine aw_iload (pc := 2120) hC1 dL_law__2120 rfl ?_
          refine aw_i2l (pc := 2122) hC1 dL_law__2122 ?_
          refine aw_lcmp (pc := 2123) hC1 dL_law__2123 ?_
          refine aw_if_eq (pc := 2124) (tgt := 2129) hC1 dL_law__2124 (by decide) (fun _ => ?_) (fun _ => ?_)
          · skip
            refine aw_goto (pc := 2129) (tgt := 2965) hC1 dL_law__2129 (by decide) ?_
            exact aw_drop [5, 6] (hK i q4.2)
          · skip
            exact aw_none
        · skip
          refine aw_goto (pc := 2129) (tgt := 2965) hC1 dL_law__2129 (by decide) ?_
          exact aw_drop [5, 6] (hK i q4.2)
      · skip
        exact aw_none
    · skip
      refine aw_if_eq (pc := 2088) (tgt := 2095) hC1 dL_law__2088 (by decide) (fun _ => ?_) (fun _ => ?_)
      · skip
        refine aw_iconst (pc := 2095) (v := 0) hC1 dL_law__2095 ic0 ?_
        exact hJ2096 0
      · skip
        refine aw_iconst (pc := 2091) (v := 1) hC1 dL_law__2091 ic1 ?_
        refine aw_goto (pc := 2092) (tgt := 2096) hC1 dL_law__2092 (by decide) ?_
        exact hJ2096 1
  · skip
    refine aw_if_eq (pc := 2067) (tgt := 2074) hC dL_law__2067 (by decide) (fun _ => ?_) (fun _ => ?_)
    · skip
      refine aw_iconst (pc := 2074) (v := 0) hC dL_law__2074 ic0 ?_
      exact hJ2075 0
    · skip
      refine aw_iconst (pc := 2070) (v := 1) hC dL_law__2070 ic1 ?_
      refine aw_goto (pc := 2071) (tgt := 2075) hC dL_law__2071 (by decide) ?_
      exact hJ2075 1
theorem dL_law__2132 : decode cL_law_ 2132 = .ok (.aload_n 1, 1) := by decide +kernel
theorem dL_law__2133 : decode cL_law_ 2133 = .ok (.aload_n 3, 1) := by decide +kernel
theorem dL_law__2134 : decode cL_law_ 2134 = .ok (.invokestatic 272, 3) := by decide +kernel
theorem dL_law__2137 : decode cL_law_ 2137 = .ok (.istore 5, 2) := by decide +kernel
theorem dL_law__2139 : decode cL_law_ 2139 = .ok (.aload_n 2, 1) := by decide +kernel
theorem dL_law__2140 : decode cL_law_ 2140 = .ok (.invokevirtual 274, 3) := by decide +kernel
theorem dL_law__2143 : decode cL_law_ 2143 = .ok (.istore 6, 2) := by decide +kernel
theorem dL_law__2145 : decode cL_law_ 2145 = .ok (.aload_n 2, 1) := by decide +kernel
theorem dL_law__2146 : decode cL_law_ 2146 = .ok (.invokevirtual 151, 3) := by decide +kernel
theorem dL_law__2149 : decode cL_law_ 2149 = .ok (.iload 5, 2) := by decide +kernel
theorem dL_law__2151 : decode cL_law_ 2151 = .ok (.if_icmp .eq 5, 3) := by decide +kernel
theorem dL_law__2156 : decode cL_law_ 2156 = .ok (.iload 5, 2) := by decide +kernel
theorem dL_law__2158 : decode cL_law_ 2158 = .ok (.ifCond .ne 15, 3) := by decide +kernel
theorem dL_law__2161 : decode cL_law_ 2161 = .ok (.aload_n 3, 1) := by decide +kernel
theorem dL_law__2162 : decode cL_law_ 2162 = .ok (.iconst 0, 1) := by decide +kernel
theorem dL_law__2163 : decode cL_law_ 2163 = .ok (.laload, 1) := by decide +kernel
theorem dL_law__2164 : decode cL_law_ 2164 = .ok (.iload 6, 2) := by decide +kernel
theorem dL_law__2166 : decode cL_law_ 2166 = .ok (.i2l, 1) := by decide +kernel
theorem dL_law__2167 : decode cL_law_ 2167 = .ok (.lcmp, 1) := by decide +kernel
theorem dL_law__2168 : decode cL_law_ 2168 = .ok (.ifCond .eq 5, 3) := by decide +kernel
theorem dL_law__2173 : decode cL_law_ 2173 = .ok (.goto 792, 3) := by decide +kernel
def lc_37 (xs : Nat → Int32) (n : Nat) (K : Int32 → Mem → Option Unit) (i : Int32) (μ : Mem) : Option Unit := (f_L_look μ).bind fun (q1 : Int32 × Mem) => (f_X10_look q1.2).bind fun (q2 : Int32 × Mem) => (f_X10_thrown q2.2).bind fun (q3 : Int32) => if q3 = q1.1 then (if q1.1 = 0 then (ix 0 1 (if (lg_cmp ((q2.2 0 22 (Int32.toNatClampNeg 0)).toInt64) q2.1.toInt64) = 0 then (K i q2.2) else (none))) else (K i q2.2)) else (none)
set_option maxHeartbeats 4000000 in
set_option maxRecDepth 100000 in
theorem hlc_37 {G : GG} {C : CX} {Q : Unit → State → Prop} {kc ks b n : Nat} {xs : Nat → Int32} {K : Int32 → Mem → Option Unit} (hl0 : C.2.1.stackTraces = false) (hC : CO G C "SaturdayKeepLaw" cL_law_ 7 62 kc ks (some .boolean)) (hC1 : CO G C "SaturdayKeepLaw" cL_law_ 7 62 (kc + 1) (ks + 6) (some .boolean)) (hX : SC G C b n xs) (hK : ∀ i μ, AW G C Q (kc + 1) (ks + 6) 7 μ 2965 [some (.ref b), some (.ref (gad G 0 0)), some (.ref (gad G 0 12)), some (.ref (gad G 0 22)), some (.int i), none, none] [] (K i μ)) (i : Int32) (μ : Mem) : AW G C Q kc ks 7 μ 2132 [some (.ref b), some (.ref (gad G 0 0)), some (.ref (gad G 0 12)), some (.ref (gad G 0 22)), some (.int i), none, none] [] (lc_37 xs n K i μ) := by
  have hK0 := fun i μ => aw_wide (Nat.le_succ kc) (Nat.le_add_right ks 6) (hK i μ)
  delta lc_37
  refine aw_aload_n (pc := 2132) (i := 1) hC dL_law__2132 rfl rfl ?_
  refine aw_aload_n (pc := 2133) (i := 3) hC dL_law__2133 rfl rfl ?_
  refine aw_callSH (pc := 2134) (As := [.ref (gad G 0 0), .ref (gad G 0 22)]) hC hC1 mw_L_look kw1208 (by decide) (c_L_look G C.2.1 hl0 μ ) rfl (Nat.le_of_ble_eq_true rfl) dL_law__2134 (fun q1 => ?_)
  refine aw_istore (pc := 2137) hC1 dL_law__2137 rfl (by decide) ?_
  refine aw_aload_n (pc := 2139) (i := 2) hC1 dL_law__2139 rfl rfl ?_
  refine aw_callVI (pc := 2140) (As := []) hC1 mb_X10_look kw1794 (by decide) (c_X10_look G C.2.1   q1.2 ) (v0 (j := 12) (by decide)) rfl rfl rfl (Nat.le_of_ble_eq_true rfl) dL_law__2140 (fun q2 => ?_)
  refine aw_istore (pc := 2143) hC1 dL_law__2143 rfl (by decide) ?_
  refine aw_aload_n (pc := 2145) (i := 2) hC1 dL_law__2145 rfl rfl ?_
  refine aw_callVR (pc := 2146) (As := []) hC1 mb_X10_thrown kw1382 (by decide) (c_X10_thrown G C.2.1   q2.2 ) (v0 (j := 12) (by decide)) rfl rfl rfl (Nat.le_of_ble_eq_true rfl) dL_law__2146 (fun q3 => ?_)
  refine aw_iload (pc := 2149) hC1 dL_law__2149 rfl ?_
  refine aw_icmp_eq (pc := 2151) (tgt := 2156) hC1 dL_law__2151 (by decide) (fun _ => ?_) (fun _ => ?_)
  · skip
    refine aw_iload (pc := 2156) hC1 dL_law__2156 rfl ?_
    refine aw_if_ne (pc := 2158) (tgt := 2173) hC1 dL_law__2158 (by decide) (fun _ => ?_) (fun _ => ?_)
    · skip
      refine aw_aload_n (pc := 2161) (i := 3) hC1 dL_law__2161 rfl rfl ?_
      refine aw_iconst (pc := 2162) (v := 0) hC1 dL_law__2162 ic0 ?_
      refine aw_laload (pc := 2163) hC1 dL_law__2163 ?_
      refine aw_iload (pc := 2164) hC1 dL_law__2164 rfl ?_
      refine aw_i2l (pc := 2166) hC1 dL_law__2166 ?_
      refine aw_lcmp (pc := 2167) hC1 dL_law__2167 ?_
      refine aw_if_eq (pc := 2168) (tgt := 2173) hC1 dL_law__2168 (by decide) (fun _ => ?_) (fun _ => ?_)
      · skip
        refine aw_goto (pc := 2173) (tgt := 2965) hC1 dL_law__2173 (by decide) ?_
        exact aw_drop [5, 6] (hK i q2.2)
      · skip
        exact aw_none
    · skip
      refine aw_goto (pc := 2173) (tgt := 2965) hC1 dL_law__2173 (by decide) ?_
      exact aw_drop [5, 6] (hK i q2.2)
  · skip
    exact aw_none
theorem dL_law__2176 : decode cL_law_ 2176 = .ok (.aload_n 1, 1) := by decide +kernel
theorem dL_law__2177 : decode cL_law_ 2177 = .ok (.invokevirtual 275, 3) := by decide +kernel
theorem dL_law__2180 : decode cL_law_ 2180 = .ok (.aload_n 2, 1) := by decide +kernel
theorem dL_law__2181 : decode cL_law_ 2181 = .ok (.invokevirtual 278, 3) := by decide +kernel
theorem dL_law__2184 : decode cL_law_ 2184 = .ok (.if_icmp .eq 781, 3) := by decide +kernel
def lc_38 (xs : Nat → Int32) (n : Nat) (K : Int32 → Mem → Option Unit) (i : Int32) (μ : Mem) : Option Unit := (f_X9_keenest μ).bind fun (q1 : Int32) => (f_X10_keenest μ).bind fun (q2 : Int32 × Mem) => if q1 = q2.1 then (K i q2.2) else (none)
set_option maxHeartbeats 4000000 in
set_option maxRecDepth 100000 in
theorem hlc_38 {G : GG} {C : CX} {Q : Unit → State → Prop} {kc ks b n : Nat} {xs : Nat → Int32} {K : Int32 → Mem → Option Unit} (hl0 : C.2.1.stackTraces = false) (hC : CO G C "SaturdayKeepLaw" cL_law_ 7 62 kc ks (some .boolean)) (hC1 : CO G C "SaturdayKeepLaw" cL_law_ 7 62 (kc + 1) (ks + 6) (some .boolean)) (hX : SC G C b n xs) (hK : ∀ i μ, AW G C Q (kc + 1) (ks + 6) 7 μ 2965 [some (.ref b), some (.ref (gad G 0 0)), some (.ref (gad G 0 12)), some (.ref (gad G 0 22)), some (.int i), none, none] [] (K i μ)) (i : Int32) (μ : Mem) : AW G C Q kc ks 7 μ 2176 [some (.ref b), some (.ref (gad G 0 0)), some (.ref (gad G 0 12)), some (.ref (gad G 0 22)), some (.int i), none, none] [] (lc_38 xs n K i μ) := by
  have hK0 := fun i μ => aw_wide (Nat.le_succ kc) (Nat.le_add_right ks 6) (hK i μ)
  delta lc_38
  refine aw_aload_n (pc := 2176) (i := 1) hC dL_law__2176 rfl rfl ?_
  refine aw_callVR (pc := 2177) (As := []) hC mb_X9_keenest kw521 (by decide) (c_X9_keenest G C.2.1   μ ) (v0 (j := 0) (by decide)) rfl rfl rfl (Nat.le_of_ble_eq_true rfl) dL_law__2177 (fun q1 => ?_)
  refine aw_aload_n (pc := 2180) (i := 2) hC dL_law__2180 rfl rfl ?_
  refine aw_callVI (pc := 2181) (As := []) hC mb_X10_keenest kw1798 (by decide) (c_X10_keenest G C.2.1   μ ) (v0 (j := 12) (by decide)) rfl rfl rfl (Nat.le_of_ble_eq_true rfl) dL_law__2181 (fun q2 => ?_)
  refine aw_icmp_eq (pc := 2184) (tgt := 2965) hC dL_law__2184 (by decide) (fun _ => ?_) (fun _ => ?_)
  · skip
    exact hK0 i q2.2
  · skip
    exact aw_none
theorem dL_law__2189 : decode cL_law_ 2189 = .ok (.aload_n 1, 1) := by decide +kernel
theorem dL_law__2190 : decode cL_law_ 2190 = .ok (.invokevirtual 279, 3) := by decide +kernel
theorem dL_law__2193 : decode cL_law_ 2193 = .ok (.aload_n 2, 1) := by decide +kernel
theorem dL_law__2194 : decode cL_law_ 2194 = .ok (.invokevirtual 282, 3) := by decide +kernel
theorem dL_law__2197 : decode cL_law_ 2197 = .ok (.if_icmp .eq 768, 3) := by decide +kernel
def lc_39 (xs : Nat → Int32) (n : Nat) (K : Int32 → Mem → Option Unit) (i : Int32) (μ : Mem) : Option Unit := (f_X9_alike μ).bind fun (q1 : Int32) => (f_X10_alike μ).bind fun (q2 : Int32 × Mem) => if q1 = q2.1 then (K i q2.2) else (none)
set_option maxHeartbeats 4000000 in
set_option maxRecDepth 100000 in
theorem hlc_39 {G : GG} {C : CX} {Q : Unit → State → Prop} {kc ks b n : Nat} {xs : Nat → Int32} {K : Int32 → Mem → Option Unit} (hl0 : C.2.1.stackTraces = false) (hC : CO G C "SaturdayKeepLaw" cL_law_ 7 62 kc ks (some .boolean)) (hC1 : CO G C "SaturdayKeepLaw" cL_law_ 7 62 (kc + 1) (ks + 6) (some .boolean)) (hX : SC G C b n xs) (hK : ∀ i μ, AW G C Q (kc + 1) (ks + 6) 7 μ 2965 [some (.ref b), some (.ref (gad G 0 0)), some (.ref (gad G 0 12)), some (.ref (gad G 0 22)), some (.int i), none, none] [] (K i μ)) (i : Int32) (μ : Mem) : AW G C Q kc ks 7 μ 2189 [some (.ref b), some (.ref (gad G 0 0)), some (.ref (gad G 0 12)), some (.ref (gad G 0 22)), some (.int i), none, none] [] (lc_39 xs n K i μ) := by
  have hK0 := fun i μ => aw_wide (Nat.le_succ kc) (Nat.le_add_right ks 6) (hK i μ)
  delta lc_39
  refine aw_aload_n (pc := 2189) (i := 1) hC dL_law__2189 rfl rfl ?_
  refine aw_callVR (pc := 2190) (As := []) hC mb_X9_alike kw525 (by decide) (c_X9_alike G C.2.1   μ ) (v0 (j := 0) (by decide)) rfl rfl rfl (Nat.le_of_ble_eq_true rfl) dL_law__2190 (fun q1 => ?_)
  refine aw_aload_n (pc := 2193) (i := 2) hC dL_law__2193 rfl rfl ?_
  refine aw_callVI (pc := 2194) (As := []) hC mb_X10_alike kw1802 (by decide) (c_X10_alike G C.2.1   μ ) (v0 (j := 12) (by decide)) rfl rfl rfl (Nat.le_of_ble_eq_true rfl) dL_law__2194 (fun q2 => ?_)
  refine aw_icmp_eq (pc := 2197) (tgt := 2965) hC dL_law__2197 (by decide) (fun _ => ?_) (fun _ => ?_)
  · skip
    exact hK0 i q2.2
  · skip
    exact aw_none
theorem dL_law__2202 : decode cL_law_ 2202 = .ok (.aload_n 1, 1) := by decide +kernel
theorem dL_law__2203 : decode cL_law_ 2203 = .ok (.aload_n 0, 1) := by decide +kernel
theorem dL_law__2204 : decode cL_law_ 2204 = .ok (.iload 4, 2) := by decide +kernel
theorem dL_law__2206 : decode cL_law_ 2206 = .ok (.iconst 1, 1) := by decide +kernel
theorem dL_law__2207 : decode cL_law_ 2207 = .ok (.iadd, 1) := by decide +kernel
theorem dL_law__2208 : decode cL_law_ 2208 = .ok (.iaload, 1) := by decide +kernel
theorem dL_law__2209 : decode cL_law_ 2209 = .ok (.aload_n 0, 1) := by decide +kernel
theorem dL_law__2210 : decode cL_law_ 2210 = .ok (.iload 4, 2) := by decide +kernel
theorem dL_law__2212 : decode cL_law_ 2212 = .ok (.iconst 2, 1) := by decide +kernel
theorem dL_law__2213 : decode cL_law_ 2213 = .ok (.iadd, 1) := by decide +kernel
theorem dL_law__2214 : decode cL_law_ 2214 = .ok (.iaload, 1) := by decide +kernel
theorem dL_law__2215 : decode cL_law_ 2215 = .ok (.aload_n 3, 1) := by decide +kernel
theorem dL_law__2216 : decode cL_law_ 2216 = .ok (.invokestatic 283, 3) := by decide +kernel
theorem dL_law__2219 : decode cL_law_ 2219 = .ok (.istore 5, 2) := by decide +kernel
theorem dL_law__2221 : decode cL_law_ 2221 = .ok (.aload_n 2, 1) := by decide +kernel
theorem dL_law__2222 : decode cL_law_ 2222 = .ok (.aload_n 0, 1) := by decide +kernel
theorem dL_law__2223 : decode cL_law_ 2223 = .ok (.iload 4, 2) := by decide +kernel
theorem dL_law__2225 : decode cL_law_ 2225 = .ok (.iconst 1, 1) := by decide +kernel
theorem dL_law__2226 : decode cL_law_ 2226 = .ok (.iadd, 1) := by decide +kernel
theorem dL_law__2227 : decode cL_law_ 2227 = .ok (.iaload, 1) := by decide +kernel
theorem dL_law__2228 : decode cL_law_ 2228 = .ok (.aload_n 0, 1) := by decide +kernel
theorem dL_law__2229 : decode cL_law_ 2229 = .ok (.iload 4, 2) := by decide +kernel
theorem dL_law__2231 : decode cL_law_ 2231 = .ok (.iconst 2, 1) := by decide +kernel
theorem dL_law__2232 : decode cL_law_ 2232 = .ok (.iadd, 1) := by decide +kernel
theorem dL_law__2233 : decode cL_law_ 2233 = .ok (.iaload, 1) := by decide +kernel
theorem dL_law__2234 : decode cL_law_ 2234 = .ok (.invokevirtual 285, 3) := by decide +kernel
theorem dL_law__2237 : decode cL_law_ 2237 = .ok (.istore 6, 2) := by decide +kernel
theorem dL_law__2239 : decode cL_law_ 2239 = .ok (.aload_n 2, 1) := by decide +kernel
theorem dL_law__2240 : decode cL_law_ 2240 = .ok (.invokevirtual 151, 3) := by decide +kernel
theorem dL_law__2243 : decode cL_law_ 2243 = .ok (.iload 5, 2) := by decide +kernel
theorem dL_law__2245 : decode cL_law_ 2245 = .ok (.if_icmp .eq 5, 3) := by decide +kernel
theorem dL_law__2250 : decode cL_law_ 2250 = .ok (.iload 5, 2) := by decide +kernel
theorem dL_law__2252 : decode cL_law_ 2252 = .ok (.ifCond .ne 15, 3) := by decide +kernel
theorem dL_law__2255 : decode cL_law_ 2255 = .ok (.aload_n 3, 1) := by decide +kernel
theorem dL_law__2256 : decode cL_law_ 2256 = .ok (.iconst 0, 1) := by decide +kernel
theorem dL_law__2257 : decode cL_law_ 2257 = .ok (.laload, 1) := by decide +kernel
theorem dL_law__2258 : decode cL_law_ 2258 = .ok (.iload 6, 2) := by decide +kernel
theorem dL_law__2260 : decode cL_law_ 2260 = .ok (.i2l, 1) := by decide +kernel
theorem dL_law__2261 : decode cL_law_ 2261 = .ok (.lcmp, 1) := by decide +kernel
theorem dL_law__2262 : decode cL_law_ 2262 = .ok (.ifCond .eq 5, 3) := by decide +kernel
theorem dL_law__2267 : decode cL_law_ 2267 = .ok (.goto 698, 3) := by decide +kernel
def lc_40 (xs : Nat → Int32) (n : Nat) (K : Int32 → Mem → Option Unit) (i : Int32) (μ : Mem) : Option Unit := ix (i + 1) n (ix (i + 2) n ((f_L_line μ (xs (i + 1).toNatClampNeg) (xs (i + 2).toNatClampNeg)).bind fun (q1 : Int32 × Mem) => ix (i + 1) n (ix (i + 2) n ((f_X10_line q1.2 (xs (i + 1).toNatClampNeg) (xs (i + 2).toNatClampNeg)).bind fun (q2 : Int32 × Mem) => (f_X10_thrown q2.2).bind fun (q3 : Int32) => if q3 = q1.1 then (if q1.1 = 0 then (ix 0 1 (if (lg_cmp ((q2.2 0 22 (Int32.toNatClampNeg 0)).toInt64) q2.1.toInt64) = 0 then (K i q2.2) else (none))) else (K i q2.2)) else (none)))))
set_option maxHeartbeats 4000000 in
set_option maxRecDepth 100000 in
theorem hlc_40 {G : GG} {C : CX} {Q : Unit → State → Prop} {kc ks b n : Nat} {xs : Nat → Int32} {K : Int32 → Mem → Option Unit} (hl0 : C.2.1.stackTraces = false) (hC : CO G C "SaturdayKeepLaw" cL_law_ 7 62 kc ks (some .boolean)) (hC1 : CO G C "SaturdayKeepLaw" cL_law_ 7 62 (kc + 1) (ks + 6) (some .boolean)) (hX : SC G C b n xs) (hK : ∀ i μ, AW G C Q (kc + 1) (ks + 6) 7 μ 2965 [some (.ref b), some (.ref (gad G 0 0)), some (.ref (gad G 0 12)), some (.ref (gad G 0 22)), some (.int i), none, none] [] (K i μ)) (i : Int32) (μ : Mem) : AW G C Q kc ks 7 μ 2202 [some (.ref b), some (.ref (gad G 0 0)), some (.ref (gad G 0 12)), some (.ref (gad G 0 22)), some (.int i), none, none] [] (lc_40 xs n K i μ) := by
  have hK0 := fun i μ => aw_wide (Nat.le_succ kc) (Nat.le_add_right ks 6) (hK i μ)
  delta lc_40
  refine aw_aload_n (pc := 2202) (i := 1) hC dL_law__2202 rfl rfl ?_
  refine aw_aload_n (pc := 2203) (i := 0) hC dL_law__2203 rfl rfl ?_
  refine aw_iload (pc := 2204) hC dL_law__2204 rfl ?_
  refine aw_iconst (pc := 2206) (v := 1) hC dL_law__2206 ic1 ?_
  refine aw_iadd (pc := 2207) hC dL_law__2207 ?_
  refine aw_sld (pc := 2208) hC hX dL_law__2208 ?_
  refine aw_aload_n (pc := 2209) (i := 0) hC dL_law__2209 rfl rfl ?_
  refine aw_iload (pc := 2210) hC dL_law__2210 rfl ?_
  refine aw_iconst (pc := 2212) (v := 2) hC dL_law__2212 ic2 ?_
  refine aw_iadd (pc := 2213) hC dL_law__2213 ?_
  refine aw_sld (pc := 2214) hC hX dL_law__2214 ?_
  refine aw_aload_n (pc := 2215) (i := 3) hC dL_law__2215 rfl rfl ?_
  refine aw_callSH (pc := 2216) (As := [.ref (gad G 0 0), .int (xs (i + 1).toNatClampNeg), .int (xs (i + 2).toNatClampNeg), .ref (gad G 0 22)]) hC hC1 mw_L_line kw1215 (by decide) (c_L_line G C.2.1 hl0 μ (xs (i + 1).toNatClampNeg) (xs (i + 2).toNatClampNeg)) rfl (Nat.le_of_ble_eq_true rfl) dL_law__2216 (fun q1 => ?_)
  refine aw_istore (pc := 2219) hC1 dL_law__2219 rfl (by decide) ?_
  refine aw_aload_n (pc := 2221) (i := 2) hC1 dL_law__2221 rfl rfl ?_
  refine aw_aload_n (pc := 2222) (i := 0) hC1 dL_law__2222 rfl rfl ?_
  refine aw_iload (pc := 2223) hC1 dL_law__2223 rfl ?_
  refine aw_iconst (pc := 2225) (v := 1) hC1 dL_law__2225 ic1 ?_
  refine aw_iadd (pc := 2226) hC1 dL_law__2226 ?_
  refine aw_sld (pc := 2227) hC1 hX dL_law__2227 ?_
  refine aw_aload_n (pc := 2228) (i := 0) hC1 dL_law__2228 rfl rfl ?_
  refine aw_iload (pc := 2229) hC1 dL_law__2229 rfl ?_
  refine aw_iconst (pc := 2231) (v := 2) hC1 dL_law__2231 ic2 ?_
  refine aw_iadd (pc := 2232) hC1 dL_law__2232 ?_
  refine aw_sld (pc := 2233) hC1 hX dL_law__2233 ?_
  refine aw_callVI (pc := 2234) (As := [.int (xs (i + 1).toNatClampNeg), .int (xs (i + 2).toNatClampNeg)]) hC1 mb_X10_line kw1806 (by decide) (c_X10_line G C.2.1   q1.2 (xs (i + 1).toNatClampNeg) (xs (i + 2).toNatClampNeg)) (v0 (j := 12) (by decide)) rfl rfl rfl (Nat.le_of_ble_eq_true rfl) dL_law__2234 (fun q2 => ?_)
  refine aw_istore (pc := 2237) hC1 dL_law__2237 rfl (by decide) ?_
  refine aw_aload_n (pc := 2239) (i := 2) hC1 dL_law__2239 rfl rfl ?_
  refine aw_callVR (pc := 2240) (As := []) hC1 mb_X10_thrown kw1382 (by decide) (c_X10_thrown G C.2.1   q2.2 ) (v0 (j := 12) (by decide)) rfl rfl rfl (Nat.le_of_ble_eq_true rfl) dL_law__2240 (fun q3 => ?_)
  refine aw_iload (pc := 2243) hC1 dL_law__2243 rfl ?_
  refine aw_icmp_eq (pc := 2245) (tgt := 2250) hC1 dL_law__2245 (by decide) (fun _ => ?_) (fun _ => ?_)
  · skip
    refine aw_iload (pc := 2250) hC1 dL_law__2250 rfl ?_
    refine aw_if_ne (pc := 2252) (tgt := 2267) hC1 dL_law__2252 (by decide) (fun _ => ?_) (fun _ => ?_)
    · skip
      refine aw_aload_n (pc := 2255) (i := 3) hC1 dL_law__2255 rfl rfl ?_
      refine aw_iconst (pc := 2256) (v := 0) hC1 dL_law__2256 ic0 ?_
      refine aw_laload (pc := 2257) hC1 dL_law__2257 ?_
      refine aw_iload (pc := 2258) hC1 dL_law__2258 rfl ?_
      refine aw_i2l (pc := 2260) hC1 dL_law__2260 ?_
      refine aw_lcmp (pc := 2261) hC1 dL_law__2261 ?_
      refine aw_if_eq (pc := 2262) (tgt := 2267) hC1 dL_law__2262 (by decide) (fun _ => ?_) (fun _ => ?_)
      · skip
        refine aw_goto (pc := 2267) (tgt := 2965) hC1 dL_law__2267 (by decide) ?_
        exact aw_drop [5, 6] (hK i q2.2)
      · skip
        exact aw_none
    · skip
      refine aw_goto (pc := 2267) (tgt := 2965) hC1 dL_law__2267 (by decide) ?_
      exact aw_drop [5, 6] (hK i q2.2)
  · skip
    exact aw_none
theorem dL_law__2270 : decode cL_law_ 2270 = .ok (.aload_n 1, 1) := by decide +kernel
theorem dL_law__2271 : decode cL_law_ 2271 = .ok (.invokevirtual 286, 3) := by decide +kernel
theorem dL_law__2274 : decode cL_law_ 2274 = .ok (.aload_n 2, 1) := by decide +kernel
theorem dL_law__2275 : decode cL_law_ 2275 = .ok (.invokevirtual 289, 3) := by decide +kernel
theorem dL_law__2278 : decode cL_law_ 2278 = .ok (.if_icmp .eq 687, 3) := by decide +kernel
def lc_41 (xs : Nat → Int32) (n : Nat) (K : Int32 → Mem → Option Unit) (i : Int32) (μ : Mem) : Option Unit := (f_X9_well μ).bind fun (q1 : Int32) => (f_X10_well μ).bind fun (q2 : Int32 × Mem) => if q1 = q2.1 then (K i q2.2) else (none)
set_option maxHeartbeats 4000000 in
set_option maxRecDepth 100000 in
theorem hlc_41 {G : GG} {C : CX} {Q : Unit → State → Prop} {kc ks b n : Nat} {xs : Nat → Int32} {K : Int32 → Mem → Option Unit} (hl0 : C.2.1.stackTraces = false) (hC : CO G C "SaturdayKeepLaw" cL_law_ 7 62 kc ks (some .boolean)) (hC1 : CO G C "SaturdayKeepLaw" cL_law_ 7 62 (kc + 1) (ks + 6) (some .boolean)) (hX : SC G C b n xs) (hK : ∀ i μ, AW G C Q (kc + 1) (ks + 6) 7 μ 2965 [some (.ref b), some (.ref (gad G 0 0)), some (.ref (gad G 0 12)), some (.ref (gad G 0 22)), some (.int i), none, none] [] (K i μ)) (i : Int32) (μ : Mem) : AW G C Q kc ks 7 μ 2270 [some (.ref b), some (.ref (gad G 0 0)), some (.ref (gad G 0 12)), some (.ref (gad G 0 22)), some (.int i), none, none] [] (lc_41 xs n K i μ) := by
  have hK0 := fun i μ => aw_wide (Nat.le_succ kc) (Nat.le_add_right ks 6) (hK i μ)
  delta lc_41
  refine aw_aload_n (pc := 2270) (i := 1) hC dL_law__2270 rfl rfl ?_
  refine aw_callVR (pc := 2271) (As := []) hC mb_X9_well kw530 (by decide) (c_X9_well G C.2.1   μ ) (v0 (j := 0) (by decide)) rfl rfl rfl (Nat.le_of_ble_eq_true rfl) dL_law__2271 (fun q1 => ?_)
  refine aw_aload_n (pc := 2274) (i := 2) hC dL_law__2274 rfl rfl ?_
  refine aw_callVI (pc := 2275) (As := []) hC mb_X10_well kw1810 (by decide) (c_X10_well G C.2.1   μ ) (v0 (j := 12) (by decide)) rfl rfl rfl (Nat.le_of_ble_eq_true rfl) dL_law__2275 (fun q2 => ?_)
  refine aw_icmp_eq (pc := 2278) (tgt := 2965) hC dL_law__2278 (by decide) (fun _ => ?_) (fun _ => ?_)
  · skip
    exact hK0 i q2.2
  · skip
    exact aw_none
theorem dL_law__2283 : decode cL_law_ 2283 = .ok (.aload_n 1, 1) := by decide +kernel
theorem dL_law__2284 : decode cL_law_ 2284 = .ok (.aload_n 0, 1) := by decide +kernel
theorem dL_law__2285 : decode cL_law_ 2285 = .ok (.iload 4, 2) := by decide +kernel
theorem dL_law__2287 : decode cL_law_ 2287 = .ok (.iconst 1, 1) := by decide +kernel
theorem dL_law__2288 : decode cL_law_ 2288 = .ok (.iadd, 1) := by decide +kernel
theorem dL_law__2289 : decode cL_law_ 2289 = .ok (.iaload, 1) := by decide +kernel
theorem dL_law__2290 : decode cL_law_ 2290 = .ok (.aload_n 0, 1) := by decide +kernel
theorem dL_law__2291 : decode cL_law_ 2291 = .ok (.iload 4, 2) := by decide +kernel
theorem dL_law__2293 : decode cL_law_ 2293 = .ok (.iconst 2, 1) := by decide +kernel
theorem dL_law__2294 : decode cL_law_ 2294 = .ok (.iadd, 1) := by decide +kernel
theorem dL_law__2295 : decode cL_law_ 2295 = .ok (.iaload, 1) := by decide +kernel
theorem dL_law__2296 : decode cL_law_ 2296 = .ok (.aload_n 3, 1) := by decide +kernel
theorem dL_law__2297 : decode cL_law_ 2297 = .ok (.invokestatic 290, 3) := by decide +kernel
theorem dL_law__2300 : decode cL_law_ 2300 = .ok (.istore 5, 2) := by decide +kernel
theorem dL_law__2302 : decode cL_law_ 2302 = .ok (.aload_n 2, 1) := by decide +kernel
theorem dL_law__2303 : decode cL_law_ 2303 = .ok (.aload_n 0, 1) := by decide +kernel
theorem dL_law__2304 : decode cL_law_ 2304 = .ok (.iload 4, 2) := by decide +kernel
theorem dL_law__2306 : decode cL_law_ 2306 = .ok (.iconst 1, 1) := by decide +kernel
theorem dL_law__2307 : decode cL_law_ 2307 = .ok (.iadd, 1) := by decide +kernel
theorem dL_law__2308 : decode cL_law_ 2308 = .ok (.iaload, 1) := by decide +kernel
theorem dL_law__2309 : decode cL_law_ 2309 = .ok (.aload_n 0, 1) := by decide +kernel
theorem dL_law__2310 : decode cL_law_ 2310 = .ok (.iload 4, 2) := by decide +kernel
theorem dL_law__2312 : decode cL_law_ 2312 = .ok (.iconst 2, 1) := by decide +kernel
theorem dL_law__2313 : decode cL_law_ 2313 = .ok (.iadd, 1) := by decide +kernel
theorem dL_law__2314 : decode cL_law_ 2314 = .ok (.iaload, 1) := by decide +kernel
theorem dL_law__2315 : decode cL_law_ 2315 = .ok (.invokevirtual 292, 3) := by decide +kernel
theorem dL_law__2318 : decode cL_law_ 2318 = .ok (.istore 6, 2) := by decide +kernel
theorem dL_law__2320 : decode cL_law_ 2320 = .ok (.aload_n 2, 1) := by decide +kernel
theorem dL_law__2321 : decode cL_law_ 2321 = .ok (.invokevirtual 151, 3) := by decide +kernel
theorem dL_law__2324 : decode cL_law_ 2324 = .ok (.iload 5, 2) := by decide +kernel
theorem dL_law__2326 : decode cL_law_ 2326 = .ok (.if_icmp .eq 5, 3) := by decide +kernel
theorem dL_law__2331 : decode cL_law_ 2331 = .ok (.iload 5, 2) := by decide +kernel
theorem dL_law__2333 : decode cL_law_ 2333 = .ok (.ifCond .ne 15, 3) := by decide +kernel
theorem dL_law__2336 : decode cL_law_ 2336 = .ok (.aload_n 3, 1) := by decide +kernel
theorem dL_law__2337 : decode cL_law_ 2337 = .ok (.iconst 0, 1) := by decide +kernel
theorem dL_law__2338 : decode cL_law_ 2338 = .ok (.laload, 1) := by decide +kernel
theorem dL_law__2339 : decode cL_law_ 2339 = .ok (.iload 6, 2) := by decide +kernel
theorem dL_law__2341 : decode cL_law_ 2341 = .ok (.i2l, 1) := by decide +kernel
theorem dL_law__2342 : decode cL_law_ 2342 = .ok (.lcmp, 1) := by decide +kernel
theorem dL_law__2343 : decode cL_law_ 2343 = .ok (.ifCond .eq 5, 3) := by decide +kernel
theorem dL_law__2348 : decode cL_law_ 2348 = .ok (.goto 617, 3) := by decide +kernel
def lc_42 (xs : Nat → Int32) (n : Nat) (K : Int32 → Mem → Option Unit) (i : Int32) (μ : Mem) : Option Unit := ix (i + 1) n (ix (i + 2) n ((f_L_pass μ (xs (i + 1).toNatClampNeg) (xs (i + 2).toNatClampNeg)).bind fun (q1 : Int32 × Mem) => ix (i + 1) n (ix (i + 2) n ((f_X10_pass q1.2 (xs (i + 1).toNatClampNeg) (xs (i + 2).toNatClampNeg)).bind fun (q2 : Int32 × Mem) => (f_X10_thrown q2.2).bind fun (q3 : Int32) => if q3 = q1.1 then (if q1.1 = 0 then (ix 0 1 (if (lg_cmp ((q2.2 0 22 (Int32.toNatClampNeg 0)).toInt64) q2.1.toInt64) = 0 then (K i q2.2) else (none))) else (K i q2.2)) else (none)))))
set_option maxHeartbeats 4000000 in
set_option maxRecDepth 100000 in
theorem hlc_42 {G : GG} {C : CX} {Q : Unit → State → Prop} {kc ks b n : Nat} {xs : Nat → Int32} {K : Int32 → Mem → Option Unit} (hl0 : C.2.1.stackTraces = false) (hC : CO G C "SaturdayKeepLaw" cL_law_ 7 62 kc ks (some .boolean)) (hC1 : CO G C "SaturdayKeepLaw" cL_law_ 7 62 (kc + 1) (ks + 6) (some .boolean)) (hX : SC G C b n xs) (hK : ∀ i μ, AW G C Q (kc + 1) (ks + 6) 7 μ 2965 [some (.ref b), some (.ref (gad G 0 0)), some (.ref (gad G 0 12)), some (.ref (gad G 0 22)), some (.int i), none, none] [] (K i μ)) (i : Int32) (μ : Mem) : AW G C Q kc ks 7 μ 2283 [some (.ref b), some (.ref (gad G 0 0)), some (.ref (gad G 0 12)), some (.ref (gad G 0 22)), some (.int i), none, none] [] (lc_42 xs n K i μ) := by
  have hK0 := fun i μ => aw_wide (Nat.le_succ kc) (Nat.le_add_right ks 6) (hK i μ)
  delta lc_42
  refine aw_aload_n (pc := 2283) (i := 1) hC dL_law__2283 rfl rfl ?_
  refine aw_aload_n (pc := 2284) (i := 0) hC dL_law__2284 rfl rfl ?_
  refine aw_iload (pc := 2285) hC dL_law__2285 rfl ?_
  refine aw_iconst (pc := 2287) (v := 1) hC dL_law__2287 ic1 ?_
  refine aw_iadd (pc := 2288) hC dL_law__2288 ?_
  refine aw_sld (pc := 2289) hC hX dL_law__2289 ?_
  refine aw_aload_n (pc := 2290) (i := 0) hC dL_law__2290 rfl rfl ?_
  refine aw_iload (pc := 2291) hC dL_law__2291 rfl ?_
  refine aw_iconst (pc := 2293) (v := 2) hC dL_law__2293 ic2 ?_
  refine aw_iadd (pc := 2294) hC dL_law__2294 ?_
  refine aw_sld (pc := 2295) hC hX dL_law__2295 ?_
  refine aw_aload_n (pc := 2296) (i := 3) hC dL_law__2296 rfl rfl ?_
  refine aw_callSH (pc := 2297) (As := [.ref (gad G 0 0), .int (xs (i + 1).toNatClampNeg), .int (xs (i + 2).toNatClampNeg), .ref (gad G 0 22)]) hC hC1 mw_L_pass kw1226 (by decide) (c_L_pass G C.2.1 hl0 μ (xs (i + 1).toNatClampNeg) (xs (i + 2).toNatClampNeg)) rfl (Nat.le_of_ble_eq_true rfl) dL_law__2297 (fun q1 => ?_)
  refine aw_istore (pc := 2300) hC1 dL_law__2300 rfl (by decide) ?_
  refine aw_aload_n (pc := 2302) (i := 2) hC1 dL_law__2302 rfl rfl ?_
  refine aw_aload_n (pc := 2303) (i := 0) hC1 dL_law__2303 rfl rfl ?_
  refine aw_iload (pc := 2304) hC1 dL_law__2304 rfl ?_
  refine aw_iconst (pc := 2306) (v := 1) hC1 dL_law__2306 ic1 ?_
  refine aw_iadd (pc := 2307) hC1 dL_law__2307 ?_
  refine aw_sld (pc := 2308) hC1 hX dL_law__2308 ?_
  refine aw_aload_n (pc := 2309) (i := 0) hC1 dL_law__2309 rfl rfl ?_
  refine aw_iload (pc := 2310) hC1 dL_law__2310 rfl ?_
  refine aw_iconst (pc := 2312) (v := 2) hC1 dL_law__2312 ic2 ?_
  refine aw_iadd (pc := 2313) hC1 dL_law__2313 ?_
  refine aw_sld (pc := 2314) hC1 hX dL_law__2314 ?_
  refine aw_callVI (pc := 2315) (As := [.int (xs (i + 1).toNatClampNeg), .int (xs (i + 2).toNatClampNeg)]) hC1 mb_X10_pass kw1814 (by decide) (c_X10_pass G C.2.1   q1.2 (xs (i + 1).toNatClampNeg) (xs (i + 2).toNatClampNeg)) (v0 (j := 12) (by decide)) rfl rfl rfl (Nat.le_of_ble_eq_true rfl) dL_law__2315 (fun q2 => ?_)
  refine aw_istore (pc := 2318) hC1 dL_law__2318 rfl (by decide) ?_
  refine aw_aload_n (pc := 2320) (i := 2) hC1 dL_law__2320 rfl rfl ?_
  refine aw_callVR (pc := 2321) (As := []) hC1 mb_X10_thrown kw1382 (by decide) (c_X10_thrown G C.2.1   q2.2 ) (v0 (j := 12) (by decide)) rfl rfl rfl (Nat.le_of_ble_eq_true rfl) dL_law__2321 (fun q3 => ?_)
  refine aw_iload (pc := 2324) hC1 dL_law__2324 rfl ?_
  refine aw_icmp_eq (pc := 2326) (tgt := 2331) hC1 dL_law__2326 (by decide) (fun _ => ?_) (fun _ => ?_)
  · skip
    refine aw_iload (pc := 2331) hC1 dL_law__2331 rfl ?_
    refine aw_if_ne (pc := 2333) (tgt := 2348) hC1 dL_law__2333 (by decide) (fun _ => ?_) (fun _ => ?_)
    · skip
      refine aw_aload_n (pc := 2336) (i := 3) hC1 dL_law__2336 rfl rfl ?_
      refine aw_iconst (pc := 2337) (v := 0) hC1 dL_law__2337 ic0 ?_
      refine aw_laload (pc := 2338) hC1 dL_law__2338 ?_
      refine aw_iload (pc := 2339) hC1 dL_law__2339 rfl ?_
      refine aw_i2l (pc := 2341) hC1 dL_law__2341 ?_
      refine aw_lcmp (pc := 2342) hC1 dL_law__2342 ?_
      refine aw_if_eq (pc := 2343) (tgt := 2348) hC1 dL_law__2343 (by decide) (fun _ => ?_) (fun _ => ?_)
      · skip
        refine aw_goto (pc := 2348) (tgt := 2965) hC1 dL_law__2348 (by decide) ?_
        exact aw_drop [5, 6] (hK i q2.2)
      · skip
        exact aw_none
    · skip
      refine aw_goto (pc := 2348) (tgt := 2965) hC1 dL_law__2348 (by decide) ?_
      exact aw_drop [5, 6] (hK i q2.2)
  · skip
    exact aw_none
theorem dL_law__2351 : decode cL_law_ 2351 = .ok (.aload_n 1, 1) := by decide +kernel
theorem dL_law__2352 : decode cL_law_ 2352 = .ok (.invokevirtual 293, 3) := by decide +kernel
theorem dL_law__2355 : decode cL_law_ 2355 = .ok (.aload_n 2, 1) := by decide +kernel
theorem dL_law__2356 : decode cL_law_ 2356 = .ok (.invokevirtual 296, 3) := by decide +kernel
theorem dL_law__2359 : decode cL_law_ 2359 = .ok (.if_icmp .eq 606, 3) := by decide +kernel
def lc_43 (xs : Nat → Int32) (n : Nat) (K : Int32 → Mem → Option Unit) (i : Int32) (μ : Mem) : Option Unit := (f_X9_crowd μ).bind fun (q1 : Int32) => (f_X10_crowd μ).bind fun (q2 : Int32 × Mem) => if q1 = q2.1 then (K i q2.2) else (none)
set_option maxHeartbeats 4000000 in
set_option maxRecDepth 100000 in
theorem hlc_43 {G : GG} {C : CX} {Q : Unit → State → Prop} {kc ks b n : Nat} {xs : Nat → Int32} {K : Int32 → Mem → Option Unit} (hl0 : C.2.1.stackTraces = false) (hC : CO G C "SaturdayKeepLaw" cL_law_ 7 62 kc ks (some .boolean)) (hC1 : CO G C "SaturdayKeepLaw" cL_law_ 7 62 (kc + 1) (ks + 6) (some .boolean)) (hX : SC G C b n xs) (hK : ∀ i μ, AW G C Q (kc + 1) (ks + 6) 7 μ 2965 [some (.ref b), some (.ref (gad G 0 0)), some (.ref (gad G 0 12)), some (.ref (gad G 0 22)), some (.int i), none, none] [] (K i μ)) (i : Int32) (μ : Mem) : AW G C Q kc ks 7 μ 2351 [some (.ref b), some (.ref (gad G 0 0)), some (.ref (gad G 0 12)), some (.ref (gad G 0 22)), some (.int i), none, none] [] (lc_43 xs n K i μ) := by
  have hK0 := fun i μ => aw_wide (Nat.le_succ kc) (Nat.le_add_right ks 6) (hK i μ)
  delta lc_43
  refine aw_aload_n (pc := 2351) (i := 1) hC dL_law__2351 rfl rfl ?_
  refine aw_callVR (pc := 2352) (As := []) hC mb_X9_crowd kw534 (by decide) (c_X9_crowd G C.2.1   μ ) (v0 (j := 0) (by decide)) rfl rfl rfl (Nat.le_of_ble_eq_true rfl) dL_law__2352 (fun q1 => ?_)
  refine aw_aload_n (pc := 2355) (i := 2) hC dL_law__2355 rfl rfl ?_
  refine aw_callVI (pc := 2356) (As := []) hC mb_X10_crowd kw1822 (by decide) (c_X10_crowd G C.2.1   μ ) (v0 (j := 12) (by decide)) rfl rfl rfl (Nat.le_of_ble_eq_true rfl) dL_law__2356 (fun q2 => ?_)
  refine aw_icmp_eq (pc := 2359) (tgt := 2965) hC dL_law__2359 (by decide) (fun _ => ?_) (fun _ => ?_)
  · skip
    exact hK0 i q2.2
  · skip
    exact aw_none
theorem dL_law__2364 : decode cL_law_ 2364 = .ok (.aload_n 1, 1) := by decide +kernel
theorem dL_law__2365 : decode cL_law_ 2365 = .ok (.invokevirtual 297, 3) := by decide +kernel
theorem dL_law__2368 : decode cL_law_ 2368 = .ok (.aload_n 2, 1) := by decide +kernel
theorem dL_law__2369 : decode cL_law_ 2369 = .ok (.invokevirtual 300, 3) := by decide +kernel
theorem dL_law__2372 : decode cL_law_ 2372 = .ok (.if_icmp .eq 593, 3) := by decide +kernel
def lc_44 (xs : Nat → Int32) (n : Nat) (K : Int32 → Mem → Option Unit) (i : Int32) (μ : Mem) : Option Unit := (f_X9_locked μ).bind fun (q1 : Int32) => (f_X10_locked μ).bind fun (q2 : Int32 × Mem) => if q1 = q2.1 then (K i q2.2) else (none)
set_option maxHeartbeats 4000000 in
set_option maxRecDepth 100000 in
theorem hlc_44 {G : GG} {C : CX} {Q : Unit → State → Prop} {kc ks b n : Nat} {xs : Nat → Int32} {K : Int32 → Mem → Option Unit} (hl0 : C.2.1.stackTraces = false) (hC : CO G C "SaturdayKeepLaw" cL_law_ 7 62 kc ks (some .boolean)) (hC1 : CO G C "SaturdayKeepLaw" cL_law_ 7 62 (kc + 1) (ks + 6) (some .boolean)) (hX : SC G C b n xs) (hK : ∀ i μ, AW G C Q (kc + 1) (ks + 6) 7 μ 2965 [some (.ref b), some (.ref (gad G 0 0)), some (.ref (gad G 0 12)), some (.ref (gad G 0 22)), some (.int i), none, none] [] (K i μ)) (i : Int32) (μ : Mem) : AW G C Q kc ks 7 μ 2364 [some (.ref b), some (.ref (gad G 0 0)), some (.ref (gad G 0 12)), some (.ref (gad G 0 22)), some (.int i), none, none] [] (lc_44 xs n K i μ) := by
  have hK0 := fun i μ => aw_wide (Nat.le_succ kc) (Nat.le_add_right ks 6) (hK i μ)
  delta lc_44
  refine aw_aload_n (pc := 2364) (i := 1) hC dL_law__2364 rfl rfl ?_
  refine aw_callVR (pc := 2365) (As := []) hC mb_X9_locked kw489 (by decide) (c_X9_locked G C.2.1   μ ) (v0 (j := 0) (by decide)) rfl rfl rfl (Nat.le_of_ble_eq_true rfl) dL_law__2365 (fun q1 => ?_)
  refine aw_aload_n (pc := 2368) (i := 2) hC dL_law__2368 rfl rfl ?_
  refine aw_callVI (pc := 2369) (As := []) hC mb_X10_locked kw1826 (by decide) (c_X10_locked G C.2.1   μ ) (v0 (j := 12) (by decide)) rfl rfl rfl (Nat.le_of_ble_eq_true rfl) dL_law__2369 (fun q2 => ?_)
  refine aw_icmp_eq (pc := 2372) (tgt := 2965) hC dL_law__2372 (by decide) (fun _ => ?_) (fun _ => ?_)
  · skip
    exact hK0 i q2.2
  · skip
    exact aw_none
theorem dL_law__2377 : decode cL_law_ 2377 = .ok (.aload_n 1, 1) := by decide +kernel
theorem dL_law__2378 : decode cL_law_ 2378 = .ok (.aload_n 0, 1) := by decide +kernel
theorem dL_law__2379 : decode cL_law_ 2379 = .ok (.iload 4, 2) := by decide +kernel
theorem dL_law__2381 : decode cL_law_ 2381 = .ok (.iconst 1, 1) := by decide +kernel
theorem dL_law__2382 : decode cL_law_ 2382 = .ok (.iadd, 1) := by decide +kernel
theorem dL_law__2383 : decode cL_law_ 2383 = .ok (.iaload, 1) := by decide +kernel
theorem dL_law__2384 : decode cL_law_ 2384 = .ok (.aload_n 3, 1) := by decide +kernel
theorem dL_law__2385 : decode cL_law_ 2385 = .ok (.invokestatic 301, 3) := by decide +kernel
theorem dL_law__2388 : decode cL_law_ 2388 = .ok (.istore 5, 2) := by decide +kernel
theorem dL_law__2390 : decode cL_law_ 2390 = .ok (.aload_n 2, 1) := by decide +kernel
theorem dL_law__2391 : decode cL_law_ 2391 = .ok (.aload_n 0, 1) := by decide +kernel
theorem dL_law__2392 : decode cL_law_ 2392 = .ok (.iload 4, 2) := by decide +kernel
theorem dL_law__2394 : decode cL_law_ 2394 = .ok (.iconst 1, 1) := by decide +kernel
theorem dL_law__2395 : decode cL_law_ 2395 = .ok (.iadd, 1) := by decide +kernel
theorem dL_law__2396 : decode cL_law_ 2396 = .ok (.iaload, 1) := by decide +kernel
theorem dL_law__2397 : decode cL_law_ 2397 = .ok (.invokevirtual 303, 3) := by decide +kernel
theorem dL_law__2400 : decode cL_law_ 2400 = .ok (.istore 6, 2) := by decide +kernel
theorem dL_law__2402 : decode cL_law_ 2402 = .ok (.aload_n 2, 1) := by decide +kernel
theorem dL_law__2403 : decode cL_law_ 2403 = .ok (.invokevirtual 151, 3) := by decide +kernel
theorem dL_law__2406 : decode cL_law_ 2406 = .ok (.iload 5, 2) := by decide +kernel
theorem dL_law__2408 : decode cL_law_ 2408 = .ok (.if_icmp .eq 5, 3) := by decide +kernel
theorem dL_law__2413 : decode cL_law_ 2413 = .ok (.iload 5, 2) := by decide +kernel
theorem dL_law__2415 : decode cL_law_ 2415 = .ok (.ifCond .ne 15, 3) := by decide +kernel
theorem dL_law__2418 : decode cL_law_ 2418 = .ok (.aload_n 3, 1) := by decide +kernel
theorem dL_law__2419 : decode cL_law_ 2419 = .ok (.iconst 0, 1) := by decide +kernel
theorem dL_law__2420 : decode cL_law_ 2420 = .ok (.laload, 1) := by decide +kernel
theorem dL_law__2421 : decode cL_law_ 2421 = .ok (.iload 6, 2) := by decide +kernel
theorem dL_law__2423 : decode cL_law_ 2423 = .ok (.i2l, 1) := by decide +kernel
theorem dL_law__2424 : decode cL_law_ 2424 = .ok (.lcmp, 1) := by decide +kernel
theorem dL_law__2425 : decode cL_law_ 2425 = .ok (.ifCond .eq 5, 3) := by decide +kernel
theorem dL_law__2430 : decode cL_law_ 2430 = .ok (.goto 535, 3) := by decide +kernel
def lc_45 (xs : Nat → Int32) (n : Nat) (K : Int32 → Mem → Option Unit) (i : Int32) (μ : Mem) : Option Unit := ix (i + 1) n ((f_L_agree μ (xs (i + 1).toNatClampNeg)).bind fun (q1 : Int32 × Mem) => ix (i + 1) n ((f_X10_agree q1.2 (xs (i + 1).toNatClampNeg)).bind fun (q2 : Int32 × Mem) => (f_X10_thrown q2.2).bind fun (q3 : Int32) => if q3 = q1.1 then (if q1.1 = 0 then (ix 0 1 (if (lg_cmp ((q2.2 0 22 (Int32.toNatClampNeg 0)).toInt64) q2.1.toInt64) = 0 then (K i q2.2) else (none))) else (K i q2.2)) else (none)))
set_option maxHeartbeats 4000000 in
set_option maxRecDepth 100000 in
theorem hlc_45 {G : GG} {C : CX} {Q : Unit → State → Prop} {kc ks b n : Nat} {xs : Nat → Int32} {K : Int32 → Mem → Option Unit} (hl0 : C.2.1.stackTraces = false) (hC : CO G C "SaturdayKeepLaw" cL_law_ 7 62 kc ks (some .boolean)) (hC1 : CO G C "SaturdayKeepLaw" cL_law_ 7 62 (kc + 1) (ks + 6) (some .boolean)) (hX : SC G C b n xs) (hK : ∀ i μ, AW G C Q (kc + 1) (ks + 6) 7 μ 2965 [some (.ref b), some (.ref (gad G 0 0)), some (.ref (gad G 0 12)), some (.ref (gad G 0 22)), some (.int i), none, none] [] (K i μ)) (i : Int32) (μ : Mem) : AW G C Q kc ks 7 μ 2377 [some (.ref b), some (.ref (gad G 0 0)), some (.ref (gad G 0 12)), some (.ref (gad G 0 22)), some (.int i), none, none] [] (lc_45 xs n K i μ) := by
  have hK0 := fun i μ => aw_wide (Nat.le_succ kc) (Nat.le_add_right ks 6) (hK i μ)
  delta lc_45
  refine aw_aload_n (pc := 2377) (i := 1) hC dL_law__2377 rfl rfl ?_
  refine aw_aload_n (pc := 2378) (i := 0) hC dL_law__2378 rfl rfl ?_
  refine aw_iload (pc := 2379) hC dL_law__2379 rfl ?_
  refine aw_iconst (pc := 2381) (v := 1) hC dL_law__2381 ic1 ?_
  refine aw_iadd (pc := 2382) hC dL_law__2382 ?_
  refine aw_sld (pc := 2383) hC hX dL_law__2383 ?_
  refine aw_aload_n (pc := 2384) (i := 3) hC dL_law__2384 rfl rfl ?_
  refine aw_callSH (pc := 2385) (As := [.ref (gad G 0 0), .int (xs (i + 1).toNatClampNeg), .ref (gad G 0 22)]) hC hC1 mw_L_agree kw1240 (by decide) (c_L_agree G C.2.1 hl0 μ (xs (i + 1).toNatClampNeg)) rfl (Nat.le_of_ble_eq_true rfl) dL_law__2385 (fun q1 => ?_)
  refine aw_istore (pc := 2388) hC1 dL_law__2388 rfl (by decide) ?_
  refine aw_aload_n (pc := 2390) (i := 2) hC1 dL_law__2390 rfl rfl ?_
  refine aw_aload_n (pc := 2391) (i := 0) hC1 dL_law__2391 rfl rfl ?_
  refine aw_iload (pc := 2392) hC1 dL_law__2392 rfl ?_
  refine aw_iconst (pc := 2394) (v := 1) hC1 dL_law__2394 ic1 ?_
  refine aw_iadd (pc := 2395) hC1 dL_law__2395 ?_
  refine aw_sld (pc := 2396) hC1 hX dL_law__2396 ?_
  refine aw_callVI (pc := 2397) (As := [.int (xs (i + 1).toNatClampNeg)]) hC1 mb_X10_agree kw1830 (by decide) (c_X10_agree G C.2.1   q1.2 (xs (i + 1).toNatClampNeg)) (v0 (j := 12) (by decide)) rfl rfl rfl (Nat.le_of_ble_eq_true rfl) dL_law__2397 (fun q2 => ?_)
  refine aw_istore (pc := 2400) hC1 dL_law__2400 rfl (by decide) ?_
  refine aw_aload_n (pc := 2402) (i := 2) hC1 dL_law__2402 rfl rfl ?_
  refine aw_callVR (pc := 2403) (As := []) hC1 mb_X10_thrown kw1382 (by decide) (c_X10_thrown G C.2.1   q2.2 ) (v0 (j := 12) (by decide)) rfl rfl rfl (Nat.le_of_ble_eq_true rfl) dL_law__2403 (fun q3 => ?_)
  refine aw_iload (pc := 2406) hC1 dL_law__2406 rfl ?_
  refine aw_icmp_eq (pc := 2408) (tgt := 2413) hC1 dL_law__2408 (by decide) (fun _ => ?_) (fun _ => ?_)
  · skip
    refine aw_iload (pc := 2413) hC1 dL_law__2413 rfl ?_
    refine aw_if_ne (pc := 2415) (tgt := 2430) hC1 dL_law__2415 (by decide) (fun _ => ?_) (fun _ => ?_)
    · skip
      refine aw_aload_n (pc := 2418) (i := 3) hC1 dL_law__2418 rfl rfl ?_
      refine aw_iconst (pc := 2419) (v := 0) hC1 dL_law__2419 ic0 ?_
      refine aw_laload (pc := 2420) hC1 dL_law__2420 ?_
      refine aw_iload (pc := 2421) hC1 dL_law__2421 rfl ?_
      refine aw_i2l (pc := 2423) hC1 dL_law__2423 ?_
      refine aw_lcmp (pc := 2424) hC1 dL_law__2424 ?_
      refine aw_if_eq (pc := 2425) (tgt := 2430) hC1 dL_law__2425 (by decide) (fun _ => ?_) (fun _ => ?_)
      · skip
        refine aw_goto (pc := 2430) (tgt := 2965) hC1 dL_law__2430 (by decide) ?_
        exact aw_drop [5, 6] (hK i q2.2)
      · skip
        exact aw_none
    · skip
      refine aw_goto (pc := 2430) (tgt := 2965) hC1 dL_law__2430 (by decide) ?_
      exact aw_drop [5, 6] (hK i q2.2)
  · skip
    exact aw_none
theorem dL_law__2433 : decode cL_law_ 2433 = .ok (.aload_n 1, 1) := by decide +kernel
theorem dL_law__2434 : decode cL_law_ 2434 = .ok (.aload_n 0, 1) := by decide +kernel
theorem dL_law__2435 : decode cL_law_ 2435 = .ok (.iload 4, 2) := by decide +kernel
theorem dL_law__2437 : decode cL_law_ 2437 = .ok (.iconst 1, 1) := by decide +kernel
theorem dL_law__2438 : decode cL_law_ 2438 = .ok (.iadd, 1) := by decide +kernel
theorem dL_law__2439 : decode cL_law_ 2439 = .ok (.iaload, 1) := by decide +kernel
theorem dL_law__2440 : decode cL_law_ 2440 = .ok (.aload_n 3, 1) := by decide +kernel
theorem dL_law__2441 : decode cL_law_ 2441 = .ok (.invokestatic 304, 3) := by decide +kernel
theorem dL_law__2444 : decode cL_law_ 2444 = .ok (.istore 5, 2) := by decide +kernel
theorem dL_law__2446 : decode cL_law_ 2446 = .ok (.aload_n 2, 1) := by decide +kernel
theorem dL_law__2447 : decode cL_law_ 2447 = .ok (.aload_n 0, 1) := by decide +kernel
theorem dL_law__2448 : decode cL_law_ 2448 = .ok (.iload 4, 2) := by decide +kernel
theorem dL_law__2450 : decode cL_law_ 2450 = .ok (.iconst 1, 1) := by decide +kernel
theorem dL_law__2451 : decode cL_law_ 2451 = .ok (.iadd, 1) := by decide +kernel
theorem dL_law__2452 : decode cL_law_ 2452 = .ok (.iaload, 1) := by decide +kernel
theorem dL_law__2453 : decode cL_law_ 2453 = .ok (.invokevirtual 306, 3) := by decide +kernel
theorem dL_law__2456 : decode cL_law_ 2456 = .ok (.istore 6, 2) := by decide +kernel
theorem dL_law__2458 : decode cL_law_ 2458 = .ok (.aload_n 2, 1) := by decide +kernel
theorem dL_law__2459 : decode cL_law_ 2459 = .ok (.invokevirtual 151, 3) := by decide +kernel
theorem dL_law__2462 : decode cL_law_ 2462 = .ok (.iload 5, 2) := by decide +kernel
theorem dL_law__2464 : decode cL_law_ 2464 = .ok (.if_icmp .eq 5, 3) := by decide +kernel
theorem dL_law__2469 : decode cL_law_ 2469 = .ok (.iload 5, 2) := by decide +kernel
theorem dL_law__2471 : decode cL_law_ 2471 = .ok (.ifCond .ne 15, 3) := by decide +kernel
theorem dL_law__2474 : decode cL_law_ 2474 = .ok (.aload_n 3, 1) := by decide +kernel
theorem dL_law__2475 : decode cL_law_ 2475 = .ok (.iconst 0, 1) := by decide +kernel
theorem dL_law__2476 : decode cL_law_ 2476 = .ok (.laload, 1) := by decide +kernel
theorem dL_law__2477 : decode cL_law_ 2477 = .ok (.iload 6, 2) := by decide +kernel
theorem dL_law__2479 : decode cL_law_ 2479 = .ok (.i2l, 1) := by decide +kernel
theorem dL_law__2480 : decode cL_law_ 2480 = .ok (.lcmp, 1) := by decide +kernel
theorem dL_law__2481 : decode cL_law_ 2481 = .ok (.ifCond .eq 5, 3) := by decide +kernel
theorem dL_law__2486 : decode cL_law_ 2486 = .ok (.goto 479, 3) := by decide +kernel
def lc_46 (xs : Nat → Int32) (n : Nat) (K : Int32 → Mem → Option Unit) (i : Int32) (μ : Mem) : Option Unit := ix (i + 1) n ((f_L_need μ (xs (i + 1).toNatClampNeg)).bind fun (q1 : Int32 × Mem) => ix (i + 1) n ((f_X10_need q1.2 (xs (i + 1).toNatClampNeg)).bind fun (q2 : Int32 × Mem) => (f_X10_thrown q2.2).bind fun (q3 : Int32) => if q3 = q1.1 then (if q1.1 = 0 then (ix 0 1 (if (lg_cmp ((q2.2 0 22 (Int32.toNatClampNeg 0)).toInt64) q2.1.toInt64) = 0 then (K i q2.2) else (none))) else (K i q2.2)) else (none)))
set_option maxHeartbeats 4000000 in
set_option maxRecDepth 100000 in
theorem hlc_46 {G : GG} {C : CX} {Q : Unit → State → Prop} {kc ks b n : Nat} {xs : Nat → Int32} {K : Int32 → Mem → Option Unit} (hl0 : C.2.1.stackTraces = false) (hC : CO G C "SaturdayKeepLaw" cL_law_ 7 62 kc ks (some .boolean)) (hC1 : CO G C "SaturdayKeepLaw" cL_law_ 7 62 (kc + 1) (ks + 6) (some .boolean)) (hX : SC G C b n xs) (hK : ∀ i μ, AW G C Q (kc + 1) (ks + 6) 7 μ 2965 [some (.ref b), some (.ref (gad G 0 0)), some (.ref (gad G 0 12)), some (.ref (gad G 0 22)), some (.int i), none, none] [] (K i μ)) (i : Int32) (μ : Mem) : AW G C Q kc ks 7 μ 2433 [some (.ref b), some (.ref (gad G 0 0)), some (.ref (gad G 0 12)), some (.ref (gad G 0 22)), some (.int i), none, none] [] (lc_46 xs n K i μ) := by
  have hK0 := fun i μ => aw_wide (Nat.le_succ kc) (Nat.le_add_right ks 6) (hK i μ)
  delta lc_46
  refine aw_aload_n (pc := 2433) (i := 1) hC dL_law__2433 rfl rfl ?_
  refine aw_aload_n (pc := 2434) (i := 0) hC dL_law__2434 rfl rfl ?_
  refine aw_iload (pc := 2435) hC dL_law__2435 rfl ?_
  refine aw_iconst (pc := 2437) (v := 1) hC dL_law__2437 ic1 ?_
  refine aw_iadd (pc := 2438) hC dL_law__2438 ?_
  refine aw_sld (pc := 2439) hC hX dL_law__2439 ?_
  refine aw_aload_n (pc := 2440) (i := 3) hC dL_law__2440 rfl rfl ?_
  refine aw_callSH (pc := 2441) (As := [.ref (gad G 0 0), .int (xs (i + 1).toNatClampNeg), .ref (gad G 0 22)]) hC hC1 mw_L_need kw1247 (by decide) (c_L_need G C.2.1 hl0 μ (xs (i + 1).toNatClampNeg)) rfl (Nat.le_of_ble_eq_true rfl) dL_law__2441 (fun q1 => ?_)
  refine aw_istore (pc := 2444) hC1 dL_law__2444 rfl (by decide) ?_
  refine aw_aload_n (pc := 2446) (i := 2) hC1 dL_law__2446 rfl rfl ?_
  refine aw_aload_n (pc := 2447) (i := 0) hC1 dL_law__2447 rfl rfl ?_
  refine aw_iload (pc := 2448) hC1 dL_law__2448 rfl ?_
  refine aw_iconst (pc := 2450) (v := 1) hC1 dL_law__2450 ic1 ?_
  refine aw_iadd (pc := 2451) hC1 dL_law__2451 ?_
  refine aw_sld (pc := 2452) hC1 hX dL_law__2452 ?_
  refine aw_callVI (pc := 2453) (As := [.int (xs (i + 1).toNatClampNeg)]) hC1 mb_X10_need kw1834 (by decide) (c_X10_need G C.2.1   q1.2 (xs (i + 1).toNatClampNeg)) (v0 (j := 12) (by decide)) rfl rfl rfl (Nat.le_of_ble_eq_true rfl) dL_law__2453 (fun q2 => ?_)
  refine aw_istore (pc := 2456) hC1 dL_law__2456 rfl (by decide) ?_
  refine aw_aload_n (pc := 2458) (i := 2) hC1 dL_law__2458 rfl rfl ?_
  refine aw_callVR (pc := 2459) (As := []) hC1 mb_X10_thrown kw1382 (by decide) (c_X10_thrown G C.2.1   q2.2 ) (v0 (j := 12) (by decide)) rfl rfl rfl (Nat.le_of_ble_eq_true rfl) dL_law__2459 (fun q3 => ?_)
  refine aw_iload (pc := 2462) hC1 dL_law__2462 rfl ?_
  refine aw_icmp_eq (pc := 2464) (tgt := 2469) hC1 dL_law__2464 (by decide) (fun _ => ?_) (fun _ => ?_)
  · skip
    refine aw_iload (pc := 2469) hC1 dL_law__2469 rfl ?_
    refine aw_if_ne (pc := 2471) (tgt := 2486) hC1 dL_law__2471 (by decide) (fun _ => ?_) (fun _ => ?_)
    · skip
      refine aw_aload_n (pc := 2474) (i := 3) hC1 dL_law__2474 rfl rfl ?_
      refine aw_iconst (pc := 2475) (v := 0) hC1 dL_law__2475 ic0 ?_
      refine aw_laload (pc := 2476) hC1 dL_law__2476 ?_
      refine aw_iload (pc := 2477) hC1 dL_law__2477 rfl ?_
      refine aw_i2l (pc := 2479) hC1 dL_law__2479 ?_
      refine aw_lcmp (pc := 2480) hC1 dL_law__2480 ?_
      refine aw_if_eq (pc := 2481) (tgt := 2486) hC1 dL_law__2481 (by decide) (fun _ => ?_) (fun _ => ?_)
      · skip
        refine aw_goto (pc := 2486) (tgt := 2965) hC1 dL_law__2486 (by decide) ?_
        exact aw_drop [5, 6] (hK i q2.2)
      · skip
        exact aw_none
    · skip
      refine aw_goto (pc := 2486) (tgt := 2965) hC1 dL_law__2486 (by decide) ?_
      exact aw_drop [5, 6] (hK i q2.2)
  · skip
    exact aw_none
theorem dL_law__2489 : decode cL_law_ 2489 = .ok (.aload_n 1, 1) := by decide +kernel
theorem dL_law__2490 : decode cL_law_ 2490 = .ok (.aload_n 0, 1) := by decide +kernel
theorem dL_law__2491 : decode cL_law_ 2491 = .ok (.iload 4, 2) := by decide +kernel
theorem dL_law__2493 : decode cL_law_ 2493 = .ok (.iconst 1, 1) := by decide +kernel
theorem dL_law__2494 : decode cL_law_ 2494 = .ok (.iadd, 1) := by decide +kernel
theorem dL_law__2495 : decode cL_law_ 2495 = .ok (.iaload, 1) := by decide +kernel
theorem dL_law__2496 : decode cL_law_ 2496 = .ok (.aload_n 3, 1) := by decide +kernel
theorem dL_law__2497 : decode cL_law_ 2497 = .ok (.invokestatic 307, 3) := by decide +kernel
theorem dL_law__2500 : decode cL_law_ 2500 = .ok (.istore 5, 2) := by decide +kernel
theorem dL_law__2502 : decode cL_law_ 2502 = .ok (.aload_n 2, 1) := by decide +kernel
theorem dL_law__2503 : decode cL_law_ 2503 = .ok (.aload_n 0, 1) := by decide +kernel
theorem dL_law__2504 : decode cL_law_ 2504 = .ok (.iload 4, 2) := by decide +kernel
theorem dL_law__2506 : decode cL_law_ 2506 = .ok (.iconst 1, 1) := by decide +kernel
theorem dL_law__2507 : decode cL_law_ 2507 = .ok (.iadd, 1) := by decide +kernel
theorem dL_law__2508 : decode cL_law_ 2508 = .ok (.iaload, 1) := by decide +kernel
theorem dL_law__2509 : decode cL_law_ 2509 = .ok (.invokevirtual 309, 3) := by decide +kernel
theorem dL_law__2512 : decode cL_law_ 2512 = .ok (.istore 6, 2) := by decide +kernel
theorem dL_law__2514 : decode cL_law_ 2514 = .ok (.aload_n 2, 1) := by decide +kernel
theorem dL_law__2515 : decode cL_law_ 2515 = .ok (.invokevirtual 151, 3) := by decide +kernel
theorem dL_law__2518 : decode cL_law_ 2518 = .ok (.iload 5, 2) := by decide +kernel
theorem dL_law__2520 : decode cL_law_ 2520 = .ok (.if_icmp .eq 5, 3) := by decide +kernel
theorem dL_law__2525 : decode cL_law_ 2525 = .ok (.iload 5, 2) := by decide +kernel
theorem dL_law__2527 : decode cL_law_ 2527 = .ok (.ifCond .ne 15, 3) := by decide +kernel
theorem dL_law__2530 : decode cL_law_ 2530 = .ok (.aload_n 3, 1) := by decide +kernel
theorem dL_law__2531 : decode cL_law_ 2531 = .ok (.iconst 0, 1) := by decide +kernel
theorem dL_law__2532 : decode cL_law_ 2532 = .ok (.laload, 1) := by decide +kernel
theorem dL_law__2533 : decode cL_law_ 2533 = .ok (.iload 6, 2) := by decide +kernel
theorem dL_law__2535 : decode cL_law_ 2535 = .ok (.i2l, 1) := by decide +kernel
theorem dL_law__2536 : decode cL_law_ 2536 = .ok (.lcmp, 1) := by decide +kernel
theorem dL_law__2537 : decode cL_law_ 2537 = .ok (.ifCond .eq 5, 3) := by decide +kernel
theorem dL_law__2542 : decode cL_law_ 2542 = .ok (.goto 423, 3) := by decide +kernel
def lc_47 (xs : Nat → Int32) (n : Nat) (K : Int32 → Mem → Option Unit) (i : Int32) (μ : Mem) : Option Unit := ix (i + 1) n ((f_L_spread μ (xs (i + 1).toNatClampNeg)).bind fun (q1 : Int32 × Mem) => ix (i + 1) n ((f_X10_spread q1.2 (xs (i + 1).toNatClampNeg)).bind fun (q2 : Int32 × Mem) => (f_X10_thrown q2.2).bind fun (q3 : Int32) => if q3 = q1.1 then (if q1.1 = 0 then (ix 0 1 (if (lg_cmp ((q2.2 0 22 (Int32.toNatClampNeg 0)).toInt64) q2.1.toInt64) = 0 then (K i q2.2) else (none))) else (K i q2.2)) else (none)))
set_option maxHeartbeats 4000000 in
set_option maxRecDepth 100000 in
theorem hlc_47 {G : GG} {C : CX} {Q : Unit → State → Prop} {kc ks b n : Nat} {xs : Nat → Int32} {K : Int32 → Mem → Option Unit} (hl0 : C.2.1.stackTraces = false) (hC : CO G C "SaturdayKeepLaw" cL_law_ 7 62 kc ks (some .boolean)) (hC1 : CO G C "SaturdayKeepLaw" cL_law_ 7 62 (kc + 1) (ks + 6) (some .boolean)) (hX : SC G C b n xs) (hK : ∀ i μ, AW G C Q (kc + 1) (ks + 6) 7 μ 2965 [some (.ref b), some (.ref (gad G 0 0)), some (.ref (gad G 0 12)), some (.ref (gad G 0 22)), some (.int i), none, none] [] (K i μ)) (i : Int32) (μ : Mem) : AW G C Q kc ks 7 μ 2489 [some (.ref b), some (.ref (gad G 0 0)), some (.ref (gad G 0 12)), some (.ref (gad G 0 22)), some (.int i), none, none] [] (lc_47 xs n K i μ) := by
  have hK0 := fun i μ => aw_wide (Nat.le_succ kc) (Nat.le_add_right ks 6) (hK i μ)
  delta lc_47
  refine aw_aload_n (pc := 2489) (i := 1) hC dL_law__2489 rfl rfl ?_
  refine aw_aload_n (pc := 2490) (i := 0) hC dL_law__2490 rfl rfl ?_
  refine aw_iload (pc := 2491) hC dL_law__2491 rfl ?_
  refine aw_iconst (pc := 2493) (v := 1) hC dL_law__2493 ic1 ?_
  refine aw_iadd (pc := 2494) hC dL_law__2494 ?_
  refine aw_sld (pc := 2495) hC hX dL_law__2495 ?_
  refine aw_aload_n (pc := 2496) (i := 3) hC dL_law__2496 rfl rfl ?_
  refine aw_callSH (pc := 2497) (As := [.ref (gad G 0 0), .int (xs (i + 1).toNatClampNeg), .ref (gad G 0 22)]) hC hC1 mw_L_spread kw1254 (by decide) (c_L_spread G C.2.1 hl0 μ (xs (i + 1).toNatClampNeg)) rfl (Nat.le_of_ble_eq_true rfl) dL_law__2497 (fun q1 => ?_)
  refine aw_istore (pc := 2500) hC1 dL_law__2500 rfl (by decide) ?_
  refine aw_aload_n (pc := 2502) (i := 2) hC1 dL_law__2502 rfl rfl ?_
  refine aw_aload_n (pc := 2503) (i := 0) hC1 dL_law__2503 rfl rfl ?_
  refine aw_iload (pc := 2504) hC1 dL_law__2504 rfl ?_
  refine aw_iconst (pc := 2506) (v := 1) hC1 dL_law__2506 ic1 ?_
  refine aw_iadd (pc := 2507) hC1 dL_law__2507 ?_
  refine aw_sld (pc := 2508) hC1 hX dL_law__2508 ?_
  refine aw_callVI (pc := 2509) (As := [.int (xs (i + 1).toNatClampNeg)]) hC1 mb_X10_spread kw1838 (by decide) (c_X10_spread G C.2.1   q1.2 (xs (i + 1).toNatClampNeg)) (v0 (j := 12) (by decide)) rfl rfl rfl (Nat.le_of_ble_eq_true rfl) dL_law__2509 (fun q2 => ?_)
  refine aw_istore (pc := 2512) hC1 dL_law__2512 rfl (by decide) ?_
  refine aw_aload_n (pc := 2514) (i := 2) hC1 dL_law__2514 rfl rfl ?_
  refine aw_callVR (pc := 2515) (As := []) hC1 mb_X10_thrown kw1382 (by decide) (c_X10_thrown G C.2.1   q2.2 ) (v0 (j := 12) (by decide)) rfl rfl rfl (Nat.le_of_ble_eq_true rfl) dL_law__2515 (fun q3 => ?_)
  refine aw_iload (pc := 2518) hC1 dL_law__2518 rfl ?_
  refine aw_icmp_eq (pc := 2520) (tgt := 2525) hC1 dL_law__2520 (by decide) (fun _ => ?_) (fun _ => ?_)
  · skip
    refine aw_iload (pc := 2525) hC1 dL_law__2525 rfl ?_
    refine aw_if_ne (pc := 2527) (tgt := 2542) hC1 dL_law__2527 (by decide) (fun _ => ?_) (fun _ => ?_)
    · skip
      refine aw_aload_n (pc := 2530) (i := 3) hC1 dL_law__2530 rfl rfl ?_
      refine aw_iconst (pc := 2531) (v := 0) hC1 dL_law__2531 ic0 ?_
      refine aw_laload (pc := 2532) hC1 dL_law__2532 ?_
      refine aw_iload (pc := 2533) hC1 dL_law__2533 rfl ?_
      refine aw_i2l (pc := 2535) hC1 dL_law__2535 ?_
      refine aw_lcmp (pc := 2536) hC1 dL_law__2536 ?_
      refine aw_if_eq (pc := 2537) (tgt := 2542) hC1 dL_law__2537 (by decide) (fun _ => ?_) (fun _ => ?_)
      · skip
        refine aw_goto (pc := 2542) (tgt := 2965) hC1 dL_law__2542 (by decide) ?_
        exact aw_drop [5, 6] (hK i q2.2)
      · skip
        exact aw_none
    · skip
      refine aw_goto (pc := 2542) (tgt := 2965) hC1 dL_law__2542 (by decide) ?_
      exact aw_drop [5, 6] (hK i q2.2)
  · skip
    exact aw_none
theorem dL_law__2545 : decode cL_law_ 2545 = .ok (.aload_n 1, 1) := by decide +kernel
theorem dL_law__2546 : decode cL_law_ 2546 = .ok (.invokevirtual 310, 3) := by decide +kernel
theorem dL_law__2549 : decode cL_law_ 2549 = .ok (.aload_n 2, 1) := by decide +kernel
theorem dL_law__2550 : decode cL_law_ 2550 = .ok (.invokevirtual 313, 3) := by decide +kernel
theorem dL_law__2553 : decode cL_law_ 2553 = .ok (.if_icmp .eq 412, 3) := by decide +kernel
def lc_48 (xs : Nat → Int32) (n : Nat) (K : Int32 → Mem → Option Unit) (i : Int32) (μ : Mem) : Option Unit := (f_X9_mutual μ).bind fun (q1 : Int32) => (f_X10_mutual μ).bind fun (q2 : Int32 × Mem) => if q1 = q2.1 then (K i q2.2) else (none)
set_option maxHeartbeats 4000000 in
set_option maxRecDepth 100000 in
theorem hlc_48 {G : GG} {C : CX} {Q : Unit → State → Prop} {kc ks b n : Nat} {xs : Nat → Int32} {K : Int32 → Mem → Option Unit} (hl0 : C.2.1.stackTraces = false) (hC : CO G C "SaturdayKeepLaw" cL_law_ 7 62 kc ks (some .boolean)) (hC1 : CO G C "SaturdayKeepLaw" cL_law_ 7 62 (kc + 1) (ks + 6) (some .boolean)) (hX : SC G C b n xs) (hK : ∀ i μ, AW G C Q (kc + 1) (ks + 6) 7 μ 2965 [some (.ref b), some (.ref (gad G 0 0)), some (.ref (gad G 0 12)), some (.ref (gad G 0 22)), some (.int i), none, none] [] (K i μ)) (i : Int32) (μ : Mem) : AW G C Q kc ks 7 μ 2545 [some (.ref b), some (.ref (gad G 0 0)), some (.ref (gad G 0 12)), some (.ref (gad G 0 22)), some (.int i), none, none] [] (lc_48 xs n K i μ) := by
  have hK0 := fun i μ => aw_wide (Nat.le_succ kc) (Nat.le_add_right ks 6) (hK i μ)
  delta lc_48
  refine aw_aload_n (pc := 2545) (i := 1) hC dL_law__2545 rfl rfl ?_
  refine aw_callVR (pc := 2546) (As := []) hC mb_X9_mutual kw495 (by decide) (c_X9_mutual G C.2.1   μ ) (v0 (j := 0) (by decide)) rfl rfl rfl (Nat.le_of_ble_eq_true rfl) dL_law__2546 (fun q1 => ?_)
  refine aw_aload_n (pc := 2549) (i := 2) hC dL_law__2549 rfl rfl ?_
  refine aw_callVI (pc := 2550) (As := []) hC mb_X10_mutual kw1842 (by decide) (c_X10_mutual G C.2.1   μ ) (v0 (j := 12) (by decide)) rfl rfl rfl (Nat.le_of_ble_eq_true rfl) dL_law__2550 (fun q2 => ?_)
  refine aw_icmp_eq (pc := 2553) (tgt := 2965) hC dL_law__2553 (by decide) (fun _ => ?_) (fun _ => ?_)
  · skip
    exact hK0 i q2.2
  · skip
    exact aw_none
theorem dL_law__2558 : decode cL_law_ 2558 = .ok (.aload_n 1, 1) := by decide +kernel
theorem dL_law__2559 : decode cL_law_ 2559 = .ok (.aload_n 0, 1) := by decide +kernel
theorem dL_law__2560 : decode cL_law_ 2560 = .ok (.iload 4, 2) := by decide +kernel
theorem dL_law__2562 : decode cL_law_ 2562 = .ok (.iconst 1, 1) := by decide +kernel
theorem dL_law__2563 : decode cL_law_ 2563 = .ok (.iadd, 1) := by decide +kernel
theorem dL_law__2564 : decode cL_law_ 2564 = .ok (.iaload, 1) := by decide +kernel
theorem dL_law__2565 : decode cL_law_ 2565 = .ok (.aload_n 0, 1) := by decide +kernel
theorem dL_law__2566 : decode cL_law_ 2566 = .ok (.iload 4, 2) := by decide +kernel
theorem dL_law__2568 : decode cL_law_ 2568 = .ok (.iconst 2, 1) := by decide +kernel
theorem dL_law__2569 : decode cL_law_ 2569 = .ok (.iadd, 1) := by decide +kernel
theorem dL_law__2570 : decode cL_law_ 2570 = .ok (.iaload, 1) := by decide +kernel
theorem dL_law__2571 : decode cL_law_ 2571 = .ok (.ifCond .eq 7, 3) := by decide +kernel
theorem dL_law__2574 : decode cL_law_ 2574 = .ok (.iconst 1, 1) := by decide +kernel
theorem dL_law__2575 : decode cL_law_ 2575 = .ok (.goto 4, 3) := by decide +kernel
theorem dL_law__2578 : decode cL_law_ 2578 = .ok (.iconst 0, 1) := by decide +kernel
theorem dL_law__2579 : decode cL_law_ 2579 = .ok (.aload_n 3, 1) := by decide +kernel
theorem dL_law__2580 : decode cL_law_ 2580 = .ok (.invokestatic 314, 3) := by decide +kernel
theorem dL_law__2583 : decode cL_law_ 2583 = .ok (.istore 5, 2) := by decide +kernel
theorem dL_law__2585 : decode cL_law_ 2585 = .ok (.aload_n 2, 1) := by decide +kernel
theorem dL_law__2586 : decode cL_law_ 2586 = .ok (.aload_n 0, 1) := by decide +kernel
theorem dL_law__2587 : decode cL_law_ 2587 = .ok (.iload 4, 2) := by decide +kernel
theorem dL_law__2589 : decode cL_law_ 2589 = .ok (.iconst 1, 1) := by decide +kernel
theorem dL_law__2590 : decode cL_law_ 2590 = .ok (.iadd, 1) := by decide +kernel
theorem dL_law__2591 : decode cL_law_ 2591 = .ok (.iaload, 1) := by decide +kernel
theorem dL_law__2592 : decode cL_law_ 2592 = .ok (.aload_n 0, 1) := by decide +kernel
theorem dL_law__2593 : decode cL_law_ 2593 = .ok (.iload 4, 2) := by decide +kernel
theorem dL_law__2595 : decode cL_law_ 2595 = .ok (.iconst 2, 1) := by decide +kernel
theorem dL_law__2596 : decode cL_law_ 2596 = .ok (.iadd, 1) := by decide +kernel
theorem dL_law__2597 : decode cL_law_ 2597 = .ok (.iaload, 1) := by decide +kernel
theorem dL_law__2598 : decode cL_law_ 2598 = .ok (.ifCond .eq 7, 3) := by decide +kernel
theorem dL_law__2601 : decode cL_law_ 2601 = .ok (.iconst 1, 1) := by decide +kernel
theorem dL_law__2602 : decode cL_law_ 2602 = .ok (.goto 4, 3) := by decide +kernel
theorem dL_law__2605 : decode cL_law_ 2605 = .ok (.iconst 0, 1) := by decide +kernel
theorem dL_law__2606 : decode cL_law_ 2606 = .ok (.invokevirtual 316, 3) := by decide +kernel
theorem dL_law__2609 : decode cL_law_ 2609 = .ok (.istore 6, 2) := by decide +kernel
theorem dL_law__2611 : decode cL_law_ 2611 = .ok (.aload_n 2, 1) := by decide +kernel
theorem dL_law__2612 : decode cL_law_ 2612 = .ok (.invokevirtual 151, 3) := by decide +kernel
theorem dL_law__2615 : decode cL_law_ 2615 = .ok (.iload 5, 2) := by decide +kernel
theorem dL_law__2617 : decode cL_law_ 2617 = .ok (.if_icmp .eq 5, 3) := by decide +kernel
theorem dL_law__2622 : decode cL_law_ 2622 = .ok (.iload 5, 2) := by decide +kernel
theorem dL_law__2624 : decode cL_law_ 2624 = .ok (.ifCond .ne 15, 3) := by decide +kernel
theorem dL_law__2627 : decode cL_law_ 2627 = .ok (.aload_n 3, 1) := by decide +kernel
theorem dL_law__2628 : decode cL_law_ 2628 = .ok (.iconst 0, 1) := by decide +kernel
theorem dL_law__2629 : decode cL_law_ 2629 = .ok (.laload, 1) := by decide +kernel
theorem dL_law__2630 : decode cL_law_ 2630 = .ok (.iload 6, 2) := by decide +kernel
theorem dL_law__2632 : decode cL_law_ 2632 = .ok (.i2l, 1) := by decide +kernel
theorem dL_law__2633 : decode cL_law_ 2633 = .ok (.lcmp, 1) := by decide +kernel
theorem dL_law__2634 : decode cL_law_ 2634 = .ok (.ifCond .eq 5, 3) := by decide +kernel
theorem dL_law__2639 : decode cL_law_ 2639 = .ok (.goto 326, 3) := by decide +kernel
def lc_49 (xs : Nat → Int32) (n : Nat) (K : Int32 → Mem → Option Unit) (i : Int32) (μ : Mem) : Option Unit := ix (i + 1) n (ix (i + 2) n (nm (fun (x1 : Int32) => (f_L_trial μ (xs (i + 1).toNatClampNeg) x1).bind fun (q2 : Int32 × Mem) => ix (i + 1) n (ix (i + 2) n (nm (fun (x3 : Int32) => (f_X10_trial q2.2 (xs (i + 1).toNatClampNeg) x3).bind fun (q4 : Int32 × Mem) => (f_X10_thrown q4.2).bind fun (q5 : Int32) => if q5 = q2.1 then (if q2.1 = 0 then (ix 0 1 (if (lg_cmp ((q4.2 0 22 (Int32.toNatClampNeg 0)).toInt64) q4.1.toInt64) = 0 then (K i q4.2) else (none))) else (K i q4.2)) else (none)) fun (J2606 : Int32 → Option Unit) => if (xs (i + 2).toNatClampNeg) = 0 then (J2606 0) else (J2606 1)))) fun (J2579 : Int32 → Option Unit) => if (xs (i + 2).toNatClampNeg) = 0 then (J2579 0) else (J2579 1)))
set_option maxHeartbeats 4000000 in
set_option maxRecDepth 100000 in
theorem hlc_49 {G : GG} {C : CX} {Q : Unit → State → Prop} {kc ks b n : Nat} {xs : Nat → Int32} {K : Int32 → Mem → Option Unit} (hl0 : C.2.1.stackTraces = false) (hC : CO G C "SaturdayKeepLaw" cL_law_ 7 62 kc ks (some .boolean)) (hC1 : CO G C "SaturdayKeepLaw" cL_law_ 7 62 (kc + 1) (ks + 6) (some .boolean)) (hX : SC G C b n xs) (hK : ∀ i μ, AW G C Q (kc + 1) (ks + 6) 7 μ 2965 [some (.ref b), some (.ref (gad G 0 0)), some (.ref (gad G 0 12)), some (.ref (gad G 0 22)), some (.int i), none, none] [] (K i μ)) (i : Int32) (μ : Mem) : AW G C Q kc ks 7 μ 2558 [some (.ref b), some (.ref (gad G 0 0)), some (.ref (gad G 0 12)), some (.ref (gad G 0 22)), some (.int i), none, none] [] (lc_49 xs n K i μ) := by
  have hK0 := fun i μ => aw_wide (Nat.le_succ kc) (Nat.le_add_right ks 6) (hK i μ)
  delta lc_49
  refine aw_aload_n (pc := 2558) (i := 1) hC dL_law__2558 rfl rfl ?_
  refine aw_aload_n (pc := 2559) (i := 0) hC dL_law__2559 rfl rfl ?_
  refine aw_iload (pc := 2560) hC dL_law__2560 rfl ?_
  refine aw_iconst (pc := 2562) (v := 1) hC dL_law__2562 ic1 ?_
  refine aw_iadd (pc := 2563) hC dL_law__2563 ?_
  refine aw_sld (pc := 2564) hC hX dL_law__2564 ?_
  refine aw_aload_n (pc := 2565) (i := 0) hC dL_law__2565 rfl rfl ?_
  refine aw_iload (pc := 2566) hC dL_law__2566 rfl ?_
  refine aw_iconst (pc := 2568) (v := 2) hC dL_law__2568 ic2 ?_
  refine aw_iadd (pc := 2569) hC dL_law__2569 ?_
  refine aw_sld (pc := 2570) hC hX dL_law__2570 ?_
  refine aw_nmJ (fun (J2579 : Int32 → Option Unit) => ∀ (x1 : Int32), AW G C Q kc ks 7 μ 2579 [some (.ref b), some (.ref (gad G 0 0)), some (.ref (gad G 0 12)), some (.ref (gad G 0 22)), some (.int i), none, none] [.int x1, .int (xs (i + 1).toNatClampNeg), .ref (gad G 0 0)] (J2579 x1)) (fun x1 => ?_) (fun J2579 hJ2579 => ?_)
  · skip
    refine aw_aload_n (pc := 2579) (i := 3) hC dL_law__2579 rfl rfl ?_
    refine aw_callSH (pc := 2580) (As := [.ref (gad G 0 0), .int (xs (i + 1).toNatClampNeg), .int x1, .ref (gad G 0 22)]) hC hC1 mw_L_trial kw1265 (by decide) (c_L_trial G C.2.1 hl0 μ (xs (i + 1).toNatClampNeg) x1) rfl (Nat.le_of_ble_eq_true rfl) dL_law__2580 (fun q2 => ?_)
    refine aw_istore (pc := 2583) hC1 dL_law__2583 rfl (by decide) ?_
    refine aw_aload_n (pc := 2585) (i := 2) hC1 dL_law__2585 rfl rfl ?_
    refine aw_aload_n (pc := 2586) (i := 0) hC1 dL_law__2586 rfl rfl ?_
    refine aw_iload (pc := 2587) hC1 dL_law__2587 rfl ?_
    refine aw_iconst (pc := 2589) (v := 1) hC1 dL_law__2589 ic1 ?_
    refine aw_iadd (pc := 2590) hC1 dL_law__2590 ?_
    refine aw_sld (pc := 2591) hC1 hX dL_law__2591 ?_
    refine aw_aload_n (pc := 2592) (i := 0) hC1 dL_law__2592 rfl rfl ?_
    refine aw_iload (pc := 2593) hC1 dL_law__2593 rfl ?_
    refine aw_iconst (pc := 2595) (v := 2) hC1 dL_law__2595 ic2 ?_
    refine aw_iadd (pc := 2596) hC1 dL_law__2596 ?_
    refine aw_sld (pc := 2597) hC1 hX dL_law__2597 ?_
    refine aw_nmJ (fun (J2606 : Int32 → Option Unit) => ∀ (x3 : Int32), AW G C Q (kc + 1) (ks + 6) 7 q2.2 2606 [some (.ref b), some (.ref (gad G 0 0)), some (.ref (gad G 0 12)), some (.ref (gad G 0 22)), some (.int i), some (.int q2.1), none] [.int x3, .int (xs (i + 1).toNatClampNeg), .ref (gad G 0 12)] (J2606 x3)) (fun x3 => ?_) (fun J2606 hJ2606 => ?_)
    · skip
      refine aw_callVI (pc := 2606) (As := [.int (xs (i + 1).toNatClampNeg), .int x3]) hC1 mb_X10_trial kw1846 (by decide) (c_X10_trial G C.2.1   q2.2 (xs (i + 1).toNatClampNeg) x3) (v0 (j := 12) (by decide)) rfl rfl rfl (Nat.le_of_ble_eq_true rfl) dL_law__2606 (fun q4 => ?_)
      refine aw_istore (pc := 2609) hC1 dL_law__2609 rfl (by decide) ?_
      refine aw_aload_n (pc := 2611) (i := 2) hC1 dL_law__2611 rfl rfl ?_
      refine aw_callVR (pc := 2612) (As := []) hC1 mb_X10_thrown kw1382 (by decide) (c_X10_thrown G C.2.1   q4.2 ) (v0 (j := 12) (by decide)) rfl rfl rfl (Nat.le_of_ble_eq_true rfl) dL_law__2612 (fun q5 => ?_)
      refine aw_iload (pc := 2615) hC1 dL_law__2615 rfl ?_
      refine aw_icmp_eq (pc := 2617) (tgt := 2622) hC1 dL_law__2617 (by decide) (fun _ => ?_) (fun _ => ?_)
      · skip
        refine aw_iload (pc := 2622) hC1 dL_law__2622 rfl ?_
        refine aw_if_ne (pc := 2624) (tgt := 2639) hC1 dL_law__2624 (by decide) (fun _ => ?_) (fun _ => ?_)
        · skip
          refine aw_aload_n (pc := 2627) (i := 3) hC1 dL_law__2627 rfl rfl ?_
          refine aw_iconst (pc := 2628) (v := 0) hC1 dL_law__2628 ic0 ?_
          refine aw_laload (pc := 2629) hC1 dL_law__2629 ?_
          refine aw_iload (pc := 2630) hC1 dL_law__2630 rfl ?_
          refine aw_i2l (pc := 2632) hC1 dL_law__2632 ?_
          refine aw_lcmp (pc := 2633) hC1 dL_law__2633 ?_
          refine aw_if_eq (pc := 2634) (tgt := 2639) hC1 dL_law__2634 (by decide) (fun _ => ?_) (fun _ => ?_)
          · skip
            refine aw_goto (pc := 2639) (tgt := 2965) hC1 dL_law__2639 (by decide) ?_
            exact aw_drop [5, 6] (hK i q4.2)
          · skip
            exact aw_none
        · skip
          refine aw_goto (pc := 2639) (tgt := 2965) hC1 dL_law__2639 (by decide) ?_
          exact aw_drop [5, 6] (hK i q4.2)
      · skip
        exact aw_none
    · skip
      refine aw_if_eq (pc := 2598) (tgt := 2605) hC1 dL_law__2598 (by decide) (fun _ => ?_) (fun _ => ?_)
      · skip
        refine aw_iconst (pc := 2605) (v := 0) hC1 dL_law__2605 ic0 ?_
        exact hJ2606 0
      · skip
        refine aw_iconst (pc := 2601) (v := 1) hC1 dL_law__2601 ic1 ?_
        refine aw_goto (pc := 2602) (tgt := 2606) hC1 dL_law__2602 (by decide) ?_
        exact hJ2606 1
  · skip
    refine aw_if_eq (pc := 2571) (tgt := 2578) hC dL_law__2571 (by decide) (fun _ => ?_) (fun _ => ?_)
    · skip
      refine aw_iconst (pc := 2578) (v := 0) hC dL_law__2578 ic0 ?_
      exact hJ2579 0
    · skip
      refine aw_iconst (pc := 2574) (v := 1) hC dL_law__2574 ic1 ?_
      refine aw_goto (pc := 2575) (tgt := 2579) hC dL_law__2575 (by decide) ?_
      exact hJ2579 1
theorem dL_law__2642 : decode cL_law_ 2642 = .ok (.aload_n 1, 1) := by decide +kernel
theorem dL_law__2643 : decode cL_law_ 2643 = .ok (.aload_n 0, 1) := by decide +kernel
theorem dL_law__2644 : decode cL_law_ 2644 = .ok (.iload 4, 2) := by decide +kernel
theorem dL_law__2646 : decode cL_law_ 2646 = .ok (.iconst 1, 1) := by decide +kernel
theorem dL_law__2647 : decode cL_law_ 2647 = .ok (.iadd, 1) := by decide +kernel
theorem dL_law__2648 : decode cL_law_ 2648 = .ok (.iaload, 1) := by decide +kernel
theorem dL_law__2649 : decode cL_law_ 2649 = .ok (.aload_n 0, 1) := by decide +kernel
theorem dL_law__2650 : decode cL_law_ 2650 = .ok (.iload 4, 2) := by decide +kernel
theorem dL_law__2652 : decode cL_law_ 2652 = .ok (.iconst 2, 1) := by decide +kernel
theorem dL_law__2653 : decode cL_law_ 2653 = .ok (.iadd, 1) := by decide +kernel
theorem dL_law__2654 : decode cL_law_ 2654 = .ok (.iaload, 1) := by decide +kernel
theorem dL_law__2655 : decode cL_law_ 2655 = .ok (.ifCond .eq 7, 3) := by decide +kernel
theorem dL_law__2658 : decode cL_law_ 2658 = .ok (.iconst 1, 1) := by decide +kernel
theorem dL_law__2659 : decode cL_law_ 2659 = .ok (.goto 4, 3) := by decide +kernel
theorem dL_law__2662 : decode cL_law_ 2662 = .ok (.iconst 0, 1) := by decide +kernel
theorem dL_law__2663 : decode cL_law_ 2663 = .ok (.aload_n 3, 1) := by decide +kernel
theorem dL_law__2664 : decode cL_law_ 2664 = .ok (.invokestatic 317, 3) := by decide +kernel
theorem dL_law__2667 : decode cL_law_ 2667 = .ok (.istore 5, 2) := by decide +kernel
theorem dL_law__2669 : decode cL_law_ 2669 = .ok (.aload_n 2, 1) := by decide +kernel
theorem dL_law__2670 : decode cL_law_ 2670 = .ok (.aload_n 0, 1) := by decide +kernel
theorem dL_law__2671 : decode cL_law_ 2671 = .ok (.iload 4, 2) := by decide +kernel
theorem dL_law__2673 : decode cL_law_ 2673 = .ok (.iconst 1, 1) := by decide +kernel
theorem dL_law__2674 : decode cL_law_ 2674 = .ok (.iadd, 1) := by decide +kernel
theorem dL_law__2675 : decode cL_law_ 2675 = .ok (.iaload, 1) := by decide +kernel
theorem dL_law__2676 : decode cL_law_ 2676 = .ok (.aload_n 0, 1) := by decide +kernel
theorem dL_law__2677 : decode cL_law_ 2677 = .ok (.iload 4, 2) := by decide +kernel
theorem dL_law__2679 : decode cL_law_ 2679 = .ok (.iconst 2, 1) := by decide +kernel
theorem dL_law__2680 : decode cL_law_ 2680 = .ok (.iadd, 1) := by decide +kernel
theorem dL_law__2681 : decode cL_law_ 2681 = .ok (.iaload, 1) := by decide +kernel
theorem dL_law__2682 : decode cL_law_ 2682 = .ok (.ifCond .eq 7, 3) := by decide +kernel
theorem dL_law__2685 : decode cL_law_ 2685 = .ok (.iconst 1, 1) := by decide +kernel
theorem dL_law__2686 : decode cL_law_ 2686 = .ok (.goto 4, 3) := by decide +kernel
theorem dL_law__2689 : decode cL_law_ 2689 = .ok (.iconst 0, 1) := by decide +kernel
theorem dL_law__2690 : decode cL_law_ 2690 = .ok (.invokevirtual 319, 3) := by decide +kernel
theorem dL_law__2693 : decode cL_law_ 2693 = .ok (.istore 6, 2) := by decide +kernel
theorem dL_law__2695 : decode cL_law_ 2695 = .ok (.aload_n 2, 1) := by decide +kernel
theorem dL_law__2696 : decode cL_law_ 2696 = .ok (.invokevirtual 151, 3) := by decide +kernel
theorem dL_law__2699 : decode cL_law_ 2699 = .ok (.iload 5, 2) := by decide +kernel
theorem dL_law__2701 : decode cL_law_ 2701 = .ok (.if_icmp .eq 5, 3) := by decide +kernel
theorem dL_law__2706 : decode cL_law_ 2706 = .ok (.iload 5, 2) := by decide +kernel
theorem dL_law__2708 : decode cL_law_ 2708 = .ok (.ifCond .ne 15, 3) := by decide +kernel
theorem dL_law__2711 : decode cL_law_ 2711 = .ok (.aload_n 3, 1) := by decide +kernel
theorem dL_law__2712 : decode cL_law_ 2712 = .ok (.iconst 0, 1) := by decide +kernel
theorem dL_law__2713 : decode cL_law_ 2713 = .ok (.laload, 1) := by decide +kernel
theorem dL_law__2714 : decode cL_law_ 2714 = .ok (.iload 6, 2) := by decide +kernel
theorem dL_law__2716 : decode cL_law_ 2716 = .ok (.i2l, 1) := by decide +kernel
theorem dL_law__2717 : decode cL_law_ 2717 = .ok (.lcmp, 1) := by decide +kernel
theorem dL_law__2718 : decode cL_law_ 2718 = .ok (.ifCond .eq 5, 3) := by decide +kernel
theorem dL_law__2723 : decode cL_law_ 2723 = .ok (.goto 242, 3) := by decide +kernel
def lc_50 (xs : Nat → Int32) (n : Nat) (K : Int32 → Mem → Option Unit) (i : Int32) (μ : Mem) : Option Unit := ix (i + 1) n (ix (i + 2) n (nm (fun (x1 : Int32) => (f_L_span μ (xs (i + 1).toNatClampNeg) x1).bind fun (q2 : Int32 × Mem) => ix (i + 1) n (ix (i + 2) n (nm (fun (x3 : Int32) => (f_X10_span q2.2 (xs (i + 1).toNatClampNeg) x3).bind fun (q4 : Int32 × Mem) => (f_X10_thrown q4.2).bind fun (q5 : Int32) => if q5 = q2.1 then (if q2.1 = 0 then (ix 0 1 (if (lg_cmp ((q4.2 0 22 (Int32.toNatClampNeg 0)).toInt64) q4.1.toInt64) = 0 then (K i q4.2) else (none))) else (K i q4.2)) else (none)) fun (J2690 : Int32 → Option Unit) => if (xs (i + 2).toNatClampNeg) = 0 then (J2690 0) else (J2690 1)))) fun (J2663 : Int32 → Option Unit) => if (xs (i + 2).toNatClampNeg) = 0 then (J2663 0) else (J2663 1)))
set_option maxHeartbeats 4000000 in
set_option maxRecDepth 100000 in
theorem hlc_50 {G : GG} {C : CX} {Q : Unit → State → Prop} {kc ks b n : Nat} {xs : Nat → Int32} {K : Int32 → Mem → Option Unit} (hl0 : C.2.1.stackTraces = false) (hC : CO G C "SaturdayKeepLaw" cL_law_ 7 62 kc ks (some .boolean)) (hC1 : CO G C "SaturdayKeepLaw" cL_law_ 7 62 (kc + 1) (ks + 6) (some .boolean)) (hX : SC G C b n xs) (hK : ∀ i μ, AW G C Q (kc + 1) (ks + 6) 7 μ 2965 [some (.ref b), some (.ref (gad G 0 0)), some (.ref (gad G 0 12)), some (.ref (gad G 0 22)), some (.int i), none, none] [] (K i μ)) (i : Int32) (μ : Mem) : AW G C Q kc ks 7 μ 2642 [some (.ref b), some (.ref (gad G 0 0)), some (.ref (gad G 0 12)), some (.ref (gad G 0 22)), some (.int i), none, none] [] (lc_50 xs n K i μ) := by
  have hK0 := fun i μ => aw_wide (Nat.le_succ kc) (Nat.le_add_right ks 6) (hK i μ)
  delta lc_50
  refine aw_aload_n (pc := 2642) (i := 1) hC dL_law__2642 rfl rfl ?_
  refine aw_aload_n (pc := 2643) (i := 0) hC dL_law__2643 rfl rfl ?_
  refine aw_iload (pc := 2644) hC dL_law__2644 rfl ?_
  refine aw_iconst (pc := 2646) (v := 1) hC dL_law__2646 ic1 ?_
  refine aw_iadd (pc := 2647) hC dL_law__2647 ?_
  refine aw_sld (pc := 2648) hC hX dL_law__2648 ?_
  refine aw_aload_n (pc := 2649) (i := 0) hC dL_law__2649 rfl rfl ?_
  refine aw_iload (pc := 2650) hC dL_law__2650 rfl ?_
  refine aw_iconst (pc := 2652) (v := 2) hC dL_law__2652 ic2 ?_
  refine aw_iadd (pc := 2653) hC dL_law__2653 ?_
  refine aw_sld (pc := 2654) hC hX dL_law__2654 ?_
  refine aw_nmJ (fun (J2663 : Int32 → Option Unit) => ∀ (x1 : Int32), AW G C Q kc ks 7 μ 2663 [some (.ref b), some (.ref (gad G 0 0)), some (.ref (gad G 0 12)), some (.ref (gad G 0 22)), some (.int i), none, none] [.int x1, .int (xs (i + 1).toNatClampNeg), .ref (gad G 0 0)] (J2663 x1)) (fun x1 => ?_) (fun J2663 hJ2663 => ?_)
  · skip
    refine aw_aload_n (pc := 2663) (i := 3) hC dL_law__2663 rfl rfl ?_
    refine aw_callSH (pc := 2664) (As := [.ref (gad G 0 0), .int (xs (i + 1).toNatClampNeg), .int x1, .ref (gad G 0 22)]) hC hC1 mw_L_span kw1272 (by decide) (c_L_span G C.2.1 hl0 μ (xs (i + 1).toNatClampNeg) x1) rfl (Nat.le_of_ble_eq_true rfl) dL_law__2664 (fun q2 => ?_)
    refine aw_istore (pc := 2667) hC1 dL_law__2667 rfl (by decide) ?_
    refine aw_aload_n (pc := 2669) (i := 2) hC1 dL_law__2669 rfl rfl ?_
    refine aw_aload_n (pc := 2670) (i := 0) hC1 dL_law__2670 rfl rfl ?_
    refine aw_iload (pc := 2671) hC1 dL_law__2671 rfl ?_
    refine aw_iconst (pc := 2673) (v := 1) hC1 dL_law__2673 ic1 ?_
    refine aw_iadd (pc := 2674) hC1 dL_law__2674 ?_
    refine aw_sld (pc := 2675) hC1 hX dL_law__2675 ?_
    refine aw_aload_n (pc := 2676) (i := 0) hC1 dL_law__2676 rfl rfl ?_
    refine aw_iload (pc := 2677) hC1 dL_law__2677 rfl ?_
    refine aw_iconst (pc := 2679) (v := 2) hC1 dL_law__2679 ic2 ?_
    refine aw_iadd (pc := 2680) hC1 dL_law__2680 ?_
    refine aw_sld (pc := 2681) hC1 hX dL_law__2681 ?_
    refine aw_nmJ (fun (J2690 : Int32 → Option Unit) => ∀ (x3 : Int32), AW G C Q (kc + 1) (ks + 6) 7 q2.2 2690 [some (.ref b), some (.ref (gad G 0 0)), some (.ref (gad G 0 12)), some (.ref (gad G 0 22)), some (.int i), some (.int q2.1), none] [.int x3, .int (xs (i + 1).toNatClampNeg), .ref (gad G 0 12)] (J2690 x3)) (fun x3 => ?_) (fun J2690 hJ2690 => ?_)
    · skip
      refine aw_callVI (pc := 2690) (As := [.int (xs (i + 1).toNatClampNeg), .int x3]) hC1 mb_X10_span kw1854 (by decide) (c_X10_span G C.2.1   q2.2 (xs (i + 1).toNatClampNeg) x3) (v0 (j := 12) (by decide)) rfl rfl rfl (Nat.le_of_ble_eq_true rfl) dL_law__2690 (fun q4 => ?_)
      refine aw_istore (pc := 2693) hC1 dL_law__2693 rfl (by decide) ?_
      refine aw_aload_n (pc := 2695) (i := 2) hC1 dL_law__2695 rfl rfl ?_
      refine aw_callVR (pc := 2696) (As := []) hC1 mb_X10_thrown kw1382 (by decide) (c_X10_thrown G C.2.1   q4.2 ) (v0 (j := 12) (by decide)) rfl rfl rfl (Nat.le_of_ble_eq_true rfl) dL_law__2696 (fun q5 => ?_)
      refine aw_iload (pc := 2699) hC1 dL_law__2699 rfl ?_
      refine aw_icmp_eq (pc := 2701) (tgt := 2706) hC1 dL_law__2701 (by decide) (fun _ => ?_) (fun _ => ?_)
      · skip
        refine aw_iload (pc := 2706) hC1 dL_law__2706 rfl ?_
        refine aw_if_ne (pc := 2708) (tgt := 2723) hC1 dL_law__2708 (by decide) (fun _ => ?_) (fun _ => ?_)
        · skip
          refine aw_aload_n (pc := 2711) (i := 3) hC1 dL_law__2711 rfl rfl ?_
          refine aw_iconst (pc := 2712) (v := 0) hC1 dL_law__2712 ic0 ?_
          refine aw_laload (pc := 2713) hC1 dL_law__2713 ?_
          refine aw_iload (pc := 2714) hC1 dL_law__2714 rfl ?_
          refine aw_i2l (pc := 2716) hC1 dL_law__2716 ?_
          refine aw_lcmp (pc := 2717) hC1 dL_law__2717 ?_
          refine aw_if_eq (pc := 2718) (tgt := 2723) hC1 dL_law__2718 (by decide) (fun _ => ?_) (fun _ => ?_)
          · skip
            refine aw_goto (pc := 2723) (tgt := 2965) hC1 dL_law__2723 (by decide) ?_
            exact aw_drop [5, 6] (hK i q4.2)
          · skip
            exact aw_none
        · skip
          refine aw_goto (pc := 2723) (tgt := 2965) hC1 dL_law__2723 (by decide) ?_
          exact aw_drop [5, 6] (hK i q4.2)
      · skip
        exact aw_none
    · skip
      refine aw_if_eq (pc := 2682) (tgt := 2689) hC1 dL_law__2682 (by decide) (fun _ => ?_) (fun _ => ?_)
      · skip
        refine aw_iconst (pc := 2689) (v := 0) hC1 dL_law__2689 ic0 ?_
        exact hJ2690 0
      · skip
        refine aw_iconst (pc := 2685) (v := 1) hC1 dL_law__2685 ic1 ?_
        refine aw_goto (pc := 2686) (tgt := 2690) hC1 dL_law__2686 (by decide) ?_
        exact hJ2690 1
  · skip
    refine aw_if_eq (pc := 2655) (tgt := 2662) hC dL_law__2655 (by decide) (fun _ => ?_) (fun _ => ?_)
    · skip
      refine aw_iconst (pc := 2662) (v := 0) hC dL_law__2662 ic0 ?_
      exact hJ2663 0
    · skip
      refine aw_iconst (pc := 2658) (v := 1) hC dL_law__2658 ic1 ?_
      refine aw_goto (pc := 2659) (tgt := 2663) hC dL_law__2659 (by decide) ?_
      exact hJ2663 1
theorem dL_law__2726 : decode cL_law_ 2726 = .ok (.aload_n 1, 1) := by decide +kernel
theorem dL_law__2727 : decode cL_law_ 2727 = .ok (.aload_n 0, 1) := by decide +kernel
theorem dL_law__2728 : decode cL_law_ 2728 = .ok (.iload 4, 2) := by decide +kernel
theorem dL_law__2730 : decode cL_law_ 2730 = .ok (.iconst 1, 1) := by decide +kernel
theorem dL_law__2731 : decode cL_law_ 2731 = .ok (.iadd, 1) := by decide +kernel
theorem dL_law__2732 : decode cL_law_ 2732 = .ok (.iaload, 1) := by decide +kernel
theorem dL_law__2733 : decode cL_law_ 2733 = .ok (.aload_n 0, 1) := by decide +kernel
theorem dL_law__2734 : decode cL_law_ 2734 = .ok (.iload 4, 2) := by decide +kernel
theorem dL_law__2736 : decode cL_law_ 2736 = .ok (.iconst 2, 1) := by decide +kernel
theorem dL_law__2737 : decode cL_law_ 2737 = .ok (.iadd, 1) := by decide +kernel
theorem dL_law__2738 : decode cL_law_ 2738 = .ok (.iaload, 1) := by decide +kernel
theorem dL_law__2739 : decode cL_law_ 2739 = .ok (.ifCond .eq 7, 3) := by decide +kernel
theorem dL_law__2742 : decode cL_law_ 2742 = .ok (.iconst 1, 1) := by decide +kernel
theorem dL_law__2743 : decode cL_law_ 2743 = .ok (.goto 4, 3) := by decide +kernel
theorem dL_law__2746 : decode cL_law_ 2746 = .ok (.iconst 0, 1) := by decide +kernel
theorem dL_law__2747 : decode cL_law_ 2747 = .ok (.aload_n 3, 1) := by decide +kernel
theorem dL_law__2748 : decode cL_law_ 2748 = .ok (.invokestatic 320, 3) := by decide +kernel
theorem dL_law__2751 : decode cL_law_ 2751 = .ok (.istore 5, 2) := by decide +kernel
theorem dL_law__2753 : decode cL_law_ 2753 = .ok (.aload_n 2, 1) := by decide +kernel
theorem dL_law__2754 : decode cL_law_ 2754 = .ok (.aload_n 0, 1) := by decide +kernel
theorem dL_law__2755 : decode cL_law_ 2755 = .ok (.iload 4, 2) := by decide +kernel
theorem dL_law__2757 : decode cL_law_ 2757 = .ok (.iconst 1, 1) := by decide +kernel
theorem dL_law__2758 : decode cL_law_ 2758 = .ok (.iadd, 1) := by decide +kernel
theorem dL_law__2759 : decode cL_law_ 2759 = .ok (.iaload, 1) := by decide +kernel
theorem dL_law__2760 : decode cL_law_ 2760 = .ok (.aload_n 0, 1) := by decide +kernel
theorem dL_law__2761 : decode cL_law_ 2761 = .ok (.iload 4, 2) := by decide +kernel
theorem dL_law__2763 : decode cL_law_ 2763 = .ok (.iconst 2, 1) := by decide +kernel
theorem dL_law__2764 : decode cL_law_ 2764 = .ok (.iadd, 1) := by decide +kernel
theorem dL_law__2765 : decode cL_law_ 2765 = .ok (.iaload, 1) := by decide +kernel
theorem dL_law__2766 : decode cL_law_ 2766 = .ok (.ifCond .eq 7, 3) := by decide +kernel
theorem dL_law__2769 : decode cL_law_ 2769 = .ok (.iconst 1, 1) := by decide +kernel
theorem dL_law__2770 : decode cL_law_ 2770 = .ok (.goto 4, 3) := by decide +kernel
theorem dL_law__2773 : decode cL_law_ 2773 = .ok (.iconst 0, 1) := by decide +kernel
theorem dL_law__2774 : decode cL_law_ 2774 = .ok (.invokevirtual 322, 3) := by decide +kernel
theorem dL_law__2777 : decode cL_law_ 2777 = .ok (.istore 6, 2) := by decide +kernel
theorem dL_law__2779 : decode cL_law_ 2779 = .ok (.aload_n 2, 1) := by decide +kernel
theorem dL_law__2780 : decode cL_law_ 2780 = .ok (.invokevirtual 151, 3) := by decide +kernel
theorem dL_law__2783 : decode cL_law_ 2783 = .ok (.iload 5, 2) := by decide +kernel
theorem dL_law__2785 : decode cL_law_ 2785 = .ok (.if_icmp .eq 5, 3) := by decide +kernel
theorem dL_law__2790 : decode cL_law_ 2790 = .ok (.iload 5, 2) := by decide +kernel
theorem dL_law__2792 : decode cL_law_ 2792 = .ok (.ifCond .ne 15, 3) := by decide +kernel
theorem dL_law__2795 : decode cL_law_ 2795 = .ok (.aload_n 3, 1) := by decide +kernel
theorem dL_law__2796 : decode cL_law_ 2796 = .ok (.iconst 0, 1) := by decide +kernel
theorem dL_law__2797 : decode cL_law_ 2797 = .ok (.laload, 1) := by decide +kernel
theorem dL_law__2798 : decode cL_law_ 2798 = .ok (.iload 6, 2) := by decide +kernel
theorem dL_law__2800 : decode cL_law_ 2800 = .ok (.i2l, 1) := by decide +kernel
theorem dL_law__2801 : decode cL_law_ 2801 = .ok (.lcmp, 1) := by decide +kernel
theorem dL_law__2802 : decode cL_law_ 2802 = .ok (.ifCond .eq 5, 3) := by decide +kernel
theorem dL_law__2807 : decode cL_law_ 2807 = .ok (.goto 158, 3) := by decide +kernel
def lc_51 (xs : Nat → Int32) (n : Nat) (K : Int32 → Mem → Option Unit) (i : Int32) (μ : Mem) : Option Unit := ix (i + 1) n (ix (i + 2) n (nm (fun (x1 : Int32) => (f_L_led μ (xs (i + 1).toNatClampNeg) x1).bind fun (q2 : Int32 × Mem) => ix (i + 1) n (ix (i + 2) n (nm (fun (x3 : Int32) => (f_X10_led q2.2 (xs (i + 1).toNatClampNeg) x3).bind fun (q4 : Int32 × Mem) => (f_X10_thrown q4.2).bind fun (q5 : Int32) => if q5 = q2.1 then (if q2.1 = 0 then (ix 0 1 (if (lg_cmp ((q4.2 0 22 (Int32.toNatClampNeg 0)).toInt64) q4.1.toInt64) = 0 then (K i q4.2) else (none))) else (K i q4.2)) else (none)) fun (J2774 : Int32 → Option Unit) => if (xs (i + 2).toNatClampNeg) = 0 then (J2774 0) else (J2774 1)))) fun (J2747 : Int32 → Option Unit) => if (xs (i + 2).toNatClampNeg) = 0 then (J2747 0) else (J2747 1)))
set_option maxHeartbeats 4000000 in
set_option maxRecDepth 100000 in
theorem hlc_51 {G : GG} {C : CX} {Q : Unit → State → Prop} {kc ks b n : Nat} {xs : Nat → Int32} {K : Int32 → Mem → Option Unit} (hl0 : C.2.1.stackTraces = false) (hC : CO G C "SaturdayKeepLaw" cL_law_ 7 62 kc ks (some .boolean)) (hC1 : CO G C "SaturdayKeepLaw" cL_law_ 7 62 (kc + 1) (ks + 6) (some .boolean)) (hX : SC G C b n xs) (hK : ∀ i μ, AW G C Q (kc + 1) (ks + 6) 7 μ 2965 [some (.ref b), some (.ref (gad G 0 0)), some (.ref (gad G 0 12)), some (.ref (gad G 0 22)), some (.int i), none, none] [] (K i μ)) (i : Int32) (μ : Mem) : AW G C Q kc ks 7 μ 2726 [some (.ref b), some (.ref (gad G 0 0)), some (.ref (gad G 0 12)), some (.ref (gad G 0 22)), some (.int i), none, none] [] (lc_51 xs n K i μ) := by
  have hK0 := fun i μ => aw_wide (Nat.le_succ kc) (Nat.le_add_right ks 6) (hK i μ)
  delta lc_51
  refine aw_aload_n (pc := 2726) (i := 1) hC dL_law__2726 rfl rfl ?_
  refine aw_aload_n (pc := 2727) (i := 0) hC dL_law__2727 rfl rfl ?_
  refine aw_iload (pc := 2728) hC dL_law__2728 rfl ?_
  refine aw_iconst (pc := 2730) (v := 1) hC dL_law__2730 ic1 ?_
  refine aw_iadd (pc := 2731) hC dL_law__2731 ?_
  refine aw_sld (pc := 2732) hC hX dL_law__2732 ?_
  refine aw_aload_n (pc := 2733) (i := 0) hC dL_law__2733 rfl rfl ?_
  refine aw_iload (pc := 2734) hC dL_law__2734 rfl ?_
  refine aw_iconst (pc := 2736) (v := 2) hC dL_law__2736 ic2 ?_
  refine aw_iadd (pc := 2737) hC dL_law__2737 ?_
  refine aw_sld (pc := 2738) hC hX dL_law__2738 ?_
  refine aw_nmJ (fun (J2747 : Int32 → Option Unit) => ∀ (x1 : Int32), AW G C Q kc ks 7 μ 2747 [some (.ref b), some (.ref (gad G 0 0)), some (.ref (gad G 0 12)), some (.ref (gad G 0 22)), some (.int i), none, none] [.int x1, .int (xs (i + 1).toNatClampNeg), .ref (gad G 0 0)] (J2747 x1)) (fun x1 => ?_) (fun J2747 hJ2747 => ?_)
  · skip
    refine aw_aload_n (pc := 2747) (i := 3) hC dL_law__2747 rfl rfl ?_
    refine aw_callSH (pc := 2748) (As := [.ref (gad G 0 0), .int (xs (i + 1).toNatClampNeg), .int x1, .ref (gad G 0 22)]) hC hC1 mw_L_led kw1279 (by decide) (c_L_led G C.2.1 hl0 μ (xs (i + 1).toNatClampNeg) x1) rfl (Nat.le_of_ble_eq_true rfl) dL_law__2748 (fun q2 => ?_)
    refine aw_istore (pc := 2751) hC1 dL_law__2751 rfl (by decide) ?_
    refine aw_aload_n (pc := 2753) (i := 2) hC1 dL_law__2753 rfl rfl ?_
    refine aw_aload_n (pc := 2754) (i := 0) hC1 dL_law__2754 rfl rfl ?_
    refine aw_iload (pc := 2755) hC1 dL_law__2755 rfl ?_
    refine aw_iconst (pc := 2757) (v := 1) hC1 dL_law__2757 ic1 ?_
    refine aw_iadd (pc := 2758) hC1 dL_law__2758 ?_
    refine aw_sld (pc := 2759) hC1 hX dL_law__2759 ?_
    refine aw_aload_n (pc := 2760) (i := 0) hC1 dL_law__2760 rfl rfl ?_
    refine aw_iload (pc := 2761) hC1 dL_law__2761 rfl ?_
    refine aw_iconst (pc := 2763) (v := 2) hC1 dL_law__2763 ic2 ?_
    refine aw_iadd (pc := 2764) hC1 dL_law__2764 ?_
    refine aw_sld (pc := 2765) hC1 hX dL_law__2765 ?_
    refine aw_nmJ (fun (J2774 : Int32 → Option Unit) => ∀ (x3 : Int32), AW G C Q (kc + 1) (ks + 6) 7 q2.2 2774 [some (.ref b), some (.ref (gad G 0 0)), some (.ref (gad G 0 12)), some (.ref (gad G 0 22)), some (.int i), some (.int q2.1), none] [.int x3, .int (xs (i + 1).toNatClampNeg), .ref (gad G 0 12)] (J2774 x3)) (fun x3 => ?_) (fun J2774 hJ2774 => ?_)
    · skip
      refine aw_callVI (pc := 2774) (As := [.int (xs (i + 1).toNatClampNeg), .int x3]) hC1 mb_X10_led kw1858 (by decide) (c_X10_led G C.2.1   q2.2 (xs (i + 1).toNatClampNeg) x3) (v0 (j := 12) (by decide)) rfl rfl rfl (Nat.le_of_ble_eq_true rfl) dL_law__2774 (fun q4 => ?_)
      refine aw_istore (pc := 2777) hC1 dL_law__2777 rfl (by decide) ?_
      refine aw_aload_n (pc := 2779) (i := 2) hC1 dL_law__2779 rfl rfl ?_
      refine aw_callVR (pc := 2780) (As := []) hC1 mb_X10_thrown kw1382 (by decide) (c_X10_thrown G C.2.1   q4.2 ) (v0 (j := 12) (by decide)) rfl rfl rfl (Nat.le_of_ble_eq_true rfl) dL_law__2780 (fun q5 => ?_)
      refine aw_iload (pc := 2783) hC1 dL_law__2783 rfl ?_
      refine aw_icmp_eq (pc := 2785) (tgt := 2790) hC1 dL_law__2785 (by decide) (fun _ => ?_) (fun _ => ?_)
      · skip
        refine aw_iload (pc := 2790) hC1 dL_law__2790 rfl ?_
        refine aw_if_ne (pc := 2792) (tgt := 2807) hC1 dL_law__2792 (by decide) (fun _ => ?_) (fun _ => ?_)
        · skip
          refine aw_aload_n (pc := 2795) (i := 3) hC1 dL_law__2795 rfl rfl ?_
          refine aw_iconst (pc := 2796) (v := 0) hC1 dL_law__2796 ic0 ?_
          refine aw_laload (pc := 2797) hC1 dL_law__2797 ?_
          refine aw_iload (pc := 2798) hC1 dL_law__2798 rfl ?_
          refine aw_i2l (pc := 2800) hC1 dL_law__2800 ?_
          refine aw_lcmp (pc := 2801) hC1 dL_law__2801 ?_
          refine aw_if_eq (pc := 2802) (tgt := 2807) hC1 dL_law__2802 (by decide) (fun _ => ?_) (fun _ => ?_)
          · skip
            refine aw_goto (pc := 2807) (tgt := 2965) hC1 dL_law__2807 (by decide) ?_
            exact aw_drop [5, 6] (hK i q4.2)
          · skip
            exact aw_none
        · skip
          refine aw_goto (pc := 2807) (tgt := 2965) hC1 dL_law__2807 (by decide) ?_
          exact aw_drop [5, 6] (hK i q4.2)
      · skip
        exact aw_none
    · skip
      refine aw_if_eq (pc := 2766) (tgt := 2773) hC1 dL_law__2766 (by decide) (fun _ => ?_) (fun _ => ?_)
      · skip
        refine aw_iconst (pc := 2773) (v := 0) hC1 dL_law__2773 ic0 ?_
        exact hJ2774 0
      · skip
        refine aw_iconst (pc := 2769) (v := 1) hC1 dL_law__2769 ic1 ?_
        refine aw_goto (pc := 2770) (tgt := 2774) hC1 dL_law__2770 (by decide) ?_
        exact hJ2774 1
  · skip
    refine aw_if_eq (pc := 2739) (tgt := 2746) hC dL_law__2739 (by decide) (fun _ => ?_) (fun _ => ?_)
    · skip
      refine aw_iconst (pc := 2746) (v := 0) hC dL_law__2746 ic0 ?_
      exact hJ2747 0
    · skip
      refine aw_iconst (pc := 2742) (v := 1) hC dL_law__2742 ic1 ?_
      refine aw_goto (pc := 2743) (tgt := 2747) hC dL_law__2743 (by decide) ?_
      exact hJ2747 1
theorem dL_law__2810 : decode cL_law_ 2810 = .ok (.aload_n 1, 1) := by decide +kernel
theorem dL_law__2811 : decode cL_law_ 2811 = .ok (.aload_n 0, 1) := by decide +kernel
theorem dL_law__2812 : decode cL_law_ 2812 = .ok (.iload 4, 2) := by decide +kernel
theorem dL_law__2814 : decode cL_law_ 2814 = .ok (.iconst 1, 1) := by decide +kernel
theorem dL_law__2815 : decode cL_law_ 2815 = .ok (.iadd, 1) := by decide +kernel
theorem dL_law__2816 : decode cL_law_ 2816 = .ok (.iaload, 1) := by decide +kernel
theorem dL_law__2817 : decode cL_law_ 2817 = .ok (.aload_n 0, 1) := by decide +kernel
theorem dL_law__2818 : decode cL_law_ 2818 = .ok (.iload 4, 2) := by decide +kernel
theorem dL_law__2820 : decode cL_law_ 2820 = .ok (.iconst 2, 1) := by decide +kernel
theorem dL_law__2821 : decode cL_law_ 2821 = .ok (.iadd, 1) := by decide +kernel
theorem dL_law__2822 : decode cL_law_ 2822 = .ok (.iaload, 1) := by decide +kernel
theorem dL_law__2823 : decode cL_law_ 2823 = .ok (.aload_n 3, 1) := by decide +kernel
theorem dL_law__2824 : decode cL_law_ 2824 = .ok (.invokestatic 323, 3) := by decide +kernel
theorem dL_law__2827 : decode cL_law_ 2827 = .ok (.istore 5, 2) := by decide +kernel
theorem dL_law__2829 : decode cL_law_ 2829 = .ok (.aload_n 2, 1) := by decide +kernel
theorem dL_law__2830 : decode cL_law_ 2830 = .ok (.aload_n 0, 1) := by decide +kernel
theorem dL_law__2831 : decode cL_law_ 2831 = .ok (.iload 4, 2) := by decide +kernel
theorem dL_law__2833 : decode cL_law_ 2833 = .ok (.iconst 1, 1) := by decide +kernel
theorem dL_law__2834 : decode cL_law_ 2834 = .ok (.iadd, 1) := by decide +kernel
theorem dL_law__2835 : decode cL_law_ 2835 = .ok (.iaload, 1) := by decide +kernel
theorem dL_law__2836 : decode cL_law_ 2836 = .ok (.aload_n 0, 1) := by decide +kernel
theorem dL_law__2837 : decode cL_law_ 2837 = .ok (.iload 4, 2) := by decide +kernel
theorem dL_law__2839 : decode cL_law_ 2839 = .ok (.iconst 2, 1) := by decide +kernel
theorem dL_law__2840 : decode cL_law_ 2840 = .ok (.iadd, 1) := by decide +kernel
theorem dL_law__2841 : decode cL_law_ 2841 = .ok (.iaload, 1) := by decide +kernel
theorem dL_law__2842 : decode cL_law_ 2842 = .ok (.invokevirtual 325, 3) := by decide +kernel
theorem dL_law__2845 : decode cL_law_ 2845 = .ok (.istore 6, 2) := by decide +kernel
theorem dL_law__2847 : decode cL_law_ 2847 = .ok (.aload_n 2, 1) := by decide +kernel
theorem dL_law__2848 : decode cL_law_ 2848 = .ok (.invokevirtual 151, 3) := by decide +kernel
theorem dL_law__2851 : decode cL_law_ 2851 = .ok (.iload 5, 2) := by decide +kernel
theorem dL_law__2853 : decode cL_law_ 2853 = .ok (.if_icmp .eq 5, 3) := by decide +kernel
theorem dL_law__2858 : decode cL_law_ 2858 = .ok (.iload 5, 2) := by decide +kernel
theorem dL_law__2860 : decode cL_law_ 2860 = .ok (.ifCond .ne 15, 3) := by decide +kernel
theorem dL_law__2863 : decode cL_law_ 2863 = .ok (.aload_n 3, 1) := by decide +kernel
theorem dL_law__2864 : decode cL_law_ 2864 = .ok (.iconst 0, 1) := by decide +kernel
theorem dL_law__2865 : decode cL_law_ 2865 = .ok (.laload, 1) := by decide +kernel
theorem dL_law__2866 : decode cL_law_ 2866 = .ok (.iload 6, 2) := by decide +kernel
theorem dL_law__2868 : decode cL_law_ 2868 = .ok (.i2l, 1) := by decide +kernel
theorem dL_law__2869 : decode cL_law_ 2869 = .ok (.lcmp, 1) := by decide +kernel
theorem dL_law__2870 : decode cL_law_ 2870 = .ok (.ifCond .eq 5, 3) := by decide +kernel
theorem dL_law__2875 : decode cL_law_ 2875 = .ok (.goto 90, 3) := by decide +kernel
def lc_52 (xs : Nat → Int32) (n : Nat) (K : Int32 → Mem → Option Unit) (i : Int32) (μ : Mem) : Option Unit := ix (i + 1) n (ix (i + 2) n ((f_L_log μ (xs (i + 1).toNatClampNeg) (xs (i + 2).toNatClampNeg)).bind fun (q1 : Int32 × Mem) => ix (i + 1) n (ix (i + 2) n ((f_X10_log q1.2 (xs (i + 1).toNatClampNeg) (xs (i + 2).toNatClampNeg)).bind fun (q2 : Int32 × Mem) => (f_X10_thrown q2.2).bind fun (q3 : Int32) => if q3 = q1.1 then (if q1.1 = 0 then (ix 0 1 (if (lg_cmp ((q2.2 0 22 (Int32.toNatClampNeg 0)).toInt64) q2.1.toInt64) = 0 then (K i q2.2) else (none))) else (K i q2.2)) else (none)))))
set_option maxHeartbeats 4000000 in
set_option maxRecDepth 100000 in
theorem hlc_52 {G : GG} {C : CX} {Q : Unit → State → Prop} {kc ks b n : Nat} {xs : Nat → Int32} {K : Int32 → Mem → Option Unit} (hl0 : C.2.1.stackTraces = false) (hC : CO G C "SaturdayKeepLaw" cL_law_ 7 62 kc ks (some .boolean)) (hC1 : CO G C "SaturdayKeepLaw" cL_law_ 7 62 (kc + 1) (ks + 6) (some .boolean)) (hX : SC G C b n xs) (hK : ∀ i μ, AW G C Q (kc + 1) (ks + 6) 7 μ 2965 [some (.ref b), some (.ref (gad G 0 0)), some (.ref (gad G 0 12)), some (.ref (gad G 0 22)), some (.int i), none, none] [] (K i μ)) (i : Int32) (μ : Mem) : AW G C Q kc ks 7 μ 2810 [some (.ref b), some (.ref (gad G 0 0)), some (.ref (gad G 0 12)), some (.ref (gad G 0 22)), some (.int i), none, none] [] (lc_52 xs n K i μ) := by
  have hK0 := fun i μ => aw_wide (Nat.le_succ kc) (Nat.le_add_right ks 6) (hK i μ)
  delta lc_52
  refine aw_aload_n (pc := 2810) (i := 1) hC dL_law__2810 rfl rfl ?_
  refine aw_aload_n (pc := 2811) (i := 0) hC dL_law__2811 rfl rfl ?_
  refine aw_iload (pc := 2812) hC dL_law__2812 rfl ?_
  refine aw_iconst (pc := 2814) (v := 1) hC dL_law__2814 ic1 ?_
  refine aw_iadd (pc := 2815) hC dL_law__2815 ?_
  refine aw_sld (pc := 2816) hC hX dL_law__2816 ?_
  refine aw_aload_n (pc := 2817) (i := 0) hC dL_law__2817 rfl rfl ?_
  refine aw_iload (pc := 2818) hC dL_law__2818 rfl ?_
  refine aw_iconst (pc := 2820) (v := 2) hC dL_law__2820 ic2 ?_
  refine aw_iadd (pc := 2821) hC dL_law__2821 ?_
  refine aw_sld (pc := 2822) hC hX dL_law__2822 ?_
  refine aw_aload_n (pc := 2823) (i := 3) hC dL_law__2823 rfl rfl ?_
  refine aw_callSH (pc := 2824) (As := [.ref (gad G 0 0), .int (xs (i + 1).toNatClampNeg), .int (xs (i + 2).toNatClampNeg), .ref (gad G 0 22)]) hC hC1 mw_L_log kw1299 (by decide) (c_L_log G C.2.1 hl0 μ (xs (i + 1).toNatClampNeg) (xs (i + 2).toNatClampNeg)) rfl (Nat.le_of_ble_eq_true rfl) dL_law__2824 (fun q1 => ?_)
  refine aw_istore (pc := 2827) hC1 dL_law__2827 rfl (by decide) ?_
  refine aw_aload_n (pc := 2829) (i := 2) hC1 dL_law__2829 rfl rfl ?_
  refine aw_aload_n (pc := 2830) (i := 0) hC1 dL_law__2830 rfl rfl ?_
  refine aw_iload (pc := 2831) hC1 dL_law__2831 rfl ?_
  refine aw_iconst (pc := 2833) (v := 1) hC1 dL_law__2833 ic1 ?_
  refine aw_iadd (pc := 2834) hC1 dL_law__2834 ?_
  refine aw_sld (pc := 2835) hC1 hX dL_law__2835 ?_
  refine aw_aload_n (pc := 2836) (i := 0) hC1 dL_law__2836 rfl rfl ?_
  refine aw_iload (pc := 2837) hC1 dL_law__2837 rfl ?_
  refine aw_iconst (pc := 2839) (v := 2) hC1 dL_law__2839 ic2 ?_
  refine aw_iadd (pc := 2840) hC1 dL_law__2840 ?_
  refine aw_sld (pc := 2841) hC1 hX dL_law__2841 ?_
  refine aw_callVI (pc := 2842) (As := [.int (xs (i + 1).toNatClampNeg), .int (xs (i + 2).toNatClampNeg)]) hC1 mb_X10_log kw1866 (by decide) (c_X10_log G C.2.1   q1.2 (xs (i + 1).toNatClampNeg) (xs (i + 2).toNatClampNeg)) (v0 (j := 12) (by decide)) rfl rfl rfl (Nat.le_of_ble_eq_true rfl) dL_law__2842 (fun q2 => ?_)
  refine aw_istore (pc := 2845) hC1 dL_law__2845 rfl (by decide) ?_
  refine aw_aload_n (pc := 2847) (i := 2) hC1 dL_law__2847 rfl rfl ?_
  refine aw_callVR (pc := 2848) (As := []) hC1 mb_X10_thrown kw1382 (by decide) (c_X10_thrown G C.2.1   q2.2 ) (v0 (j := 12) (by decide)) rfl rfl rfl (Nat.le_of_ble_eq_true rfl) dL_law__2848 (fun q3 => ?_)
  refine aw_iload (pc := 2851) hC1 dL_law__2851 rfl ?_
  refine aw_icmp_eq (pc := 2853) (tgt := 2858) hC1 dL_law__2853 (by decide) (fun _ => ?_) (fun _ => ?_)
  · skip
    refine aw_iload (pc := 2858) hC1 dL_law__2858 rfl ?_
    refine aw_if_ne (pc := 2860) (tgt := 2875) hC1 dL_law__2860 (by decide) (fun _ => ?_) (fun _ => ?_)
    · skip
      refine aw_aload_n (pc := 2863) (i := 3) hC1 dL_law__2863 rfl rfl ?_
      refine aw_iconst (pc := 2864) (v := 0) hC1 dL_law__2864 ic0 ?_
      refine aw_laload (pc := 2865) hC1 dL_law__2865 ?_
      refine aw_iload (pc := 2866) hC1 dL_law__2866 rfl ?_
      refine aw_i2l (pc := 2868) hC1 dL_law__2868 ?_
      refine aw_lcmp (pc := 2869) hC1 dL_law__2869 ?_
      refine aw_if_eq (pc := 2870) (tgt := 2875) hC1 dL_law__2870 (by decide) (fun _ => ?_) (fun _ => ?_)
      · skip
        refine aw_goto (pc := 2875) (tgt := 2965) hC1 dL_law__2875 (by decide) ?_
        exact aw_drop [5, 6] (hK i q2.2)
      · skip
        exact aw_none
    · skip
      refine aw_goto (pc := 2875) (tgt := 2965) hC1 dL_law__2875 (by decide) ?_
      exact aw_drop [5, 6] (hK i q2.2)
  · skip
    exact aw_none
theorem dL_law__2878 : decode cL_law_ 2878 = .ok (.aload_n 1, 1) := by decide +kernel
theorem dL_law__2879 : decode cL_law_ 2879 = .ok (.aload_n 0, 1) := by decide +kernel
theorem dL_law__2880 : decode cL_law_ 2880 = .ok (.iload 4, 2) := by decide +kernel
theorem dL_law__2882 : decode cL_law_ 2882 = .ok (.iconst 1, 1) := by decide +kernel
theorem dL_law__2883 : decode cL_law_ 2883 = .ok (.iadd, 1) := by decide +kernel
theorem dL_law__2884 : decode cL_law_ 2884 = .ok (.iaload, 1) := by decide +kernel
theorem dL_law__2885 : decode cL_law_ 2885 = .ok (.invokevirtual 326, 3) := by decide +kernel
theorem dL_law__2888 : decode cL_law_ 2888 = .ok (.aload_n 2, 1) := by decide +kernel
theorem dL_law__2889 : decode cL_law_ 2889 = .ok (.aload_n 0, 1) := by decide +kernel
theorem dL_law__2890 : decode cL_law_ 2890 = .ok (.iload 4, 2) := by decide +kernel
theorem dL_law__2892 : decode cL_law_ 2892 = .ok (.iconst 1, 1) := by decide +kernel
theorem dL_law__2893 : decode cL_law_ 2893 = .ok (.iadd, 1) := by decide +kernel
theorem dL_law__2894 : decode cL_law_ 2894 = .ok (.iaload, 1) := by decide +kernel
theorem dL_law__2895 : decode cL_law_ 2895 = .ok (.invokevirtual 329, 3) := by decide +kernel
theorem dL_law__2898 : decode cL_law_ 2898 = .ok (.if_icmp .eq 67, 3) := by decide +kernel
def lc_53 (xs : Nat → Int32) (n : Nat) (K : Int32 → Mem → Option Unit) (i : Int32) (μ : Mem) : Option Unit := ix (i + 1) n ((f_X9_seed μ (xs (i + 1).toNatClampNeg)).bind fun (q1 : Int32 × Mem) => ix (i + 1) n ((f_X10_seed q1.2 (xs (i + 1).toNatClampNeg)).bind fun (q2 : Int32 × Mem) => if q1.1 = q2.1 then (K i q2.2) else (none)))
set_option maxHeartbeats 4000000 in
set_option maxRecDepth 100000 in
theorem hlc_53 {G : GG} {C : CX} {Q : Unit → State → Prop} {kc ks b n : Nat} {xs : Nat → Int32} {K : Int32 → Mem → Option Unit} (hl0 : C.2.1.stackTraces = false) (hC : CO G C "SaturdayKeepLaw" cL_law_ 7 62 kc ks (some .boolean)) (hC1 : CO G C "SaturdayKeepLaw" cL_law_ 7 62 (kc + 1) (ks + 6) (some .boolean)) (hX : SC G C b n xs) (hK : ∀ i μ, AW G C Q (kc + 1) (ks + 6) 7 μ 2965 [some (.ref b), some (.ref (gad G 0 0)), some (.ref (gad G 0 12)), some (.ref (gad G 0 22)), some (.int i), none, none] [] (K i μ)) (i : Int32) (μ : Mem) : AW G C Q kc ks 7 μ 2878 [some (.ref b), some (.ref (gad G 0 0)), some (.ref (gad G 0 12)), some (.ref (gad G 0 22)), some (.int i), none, none] [] (lc_53 xs n K i μ) := by
  have hK0 := fun i μ => aw_wide (Nat.le_succ kc) (Nat.le_add_right ks 6) (hK i μ)
  delta lc_53
  refine aw_aload_n (pc := 2878) (i := 1) hC dL_law__2878 rfl rfl ?_
  refine aw_aload_n (pc := 2879) (i := 0) hC dL_law__2879 rfl rfl ?_
  refine aw_iload (pc := 2880) hC dL_law__2880 rfl ?_
  refine aw_iconst (pc := 2882) (v := 1) hC dL_law__2882 ic1 ?_
  refine aw_iadd (pc := 2883) hC dL_law__2883 ?_
  refine aw_sld (pc := 2884) hC hX dL_law__2884 ?_
  refine aw_callVI (pc := 2885) (As := [.int (xs (i + 1).toNatClampNeg)]) hC mb_X9_seed kw539 (by decide) (c_X9_seed G C.2.1   μ (xs (i + 1).toNatClampNeg)) (v0 (j := 0) (by decide)) rfl rfl rfl (Nat.le_of_ble_eq_true rfl) dL_law__2885 (fun q1 => ?_)
  refine aw_aload_n (pc := 2888) (i := 2) hC dL_law__2888 rfl rfl ?_
  refine aw_aload_n (pc := 2889) (i := 0) hC dL_law__2889 rfl rfl ?_
  refine aw_iload (pc := 2890) hC dL_law__2890 rfl ?_
  refine aw_iconst (pc := 2892) (v := 1) hC dL_law__2892 ic1 ?_
  refine aw_iadd (pc := 2893) hC dL_law__2893 ?_
  refine aw_sld (pc := 2894) hC hX dL_law__2894 ?_
  refine aw_callVI (pc := 2895) (As := [.int (xs (i + 1).toNatClampNeg)]) hC mb_X10_seed kw1870 (by decide) (c_X10_seed G C.2.1   q1.2 (xs (i + 1).toNatClampNeg)) (v0 (j := 12) (by decide)) rfl rfl rfl (Nat.le_of_ble_eq_true rfl) dL_law__2895 (fun q2 => ?_)
  refine aw_icmp_eq (pc := 2898) (tgt := 2965) hC dL_law__2898 (by decide) (fun _ => ?_) (fun _ => ?_)
  · skip
    exact hK0 i q2.2
  · skip
    exact aw_none
theorem dL_law__2903 : decode cL_law_ 2903 = .ok (.aload_n 1, 1) := by decide +kernel
theorem dL_law__2904 : decode cL_law_ 2904 = .ok (.invokevirtual 330, 3) := by decide +kernel
theorem dL_law__2907 : decode cL_law_ 2907 = .ok (.aload_n 2, 1) := by decide +kernel
theorem dL_law__2908 : decode cL_law_ 2908 = .ok (.invokevirtual 334, 3) := by decide +kernel
theorem dL_law__2911 : decode cL_law_ 2911 = .ok (.if_icmp .eq 54, 3) := by decide +kernel
def lc_54 (xs : Nat → Int32) (n : Nat) (K : Int32 → Mem → Option Unit) (i : Int32) (μ : Mem) : Option Unit := (f_X9_undo μ).bind fun (q1 : Int32 × Mem) => (f_X10_undo q1.2).bind fun (q2 : Int32 × Mem) => if q1.1 = q2.1 then (K i q2.2) else (none)
set_option maxHeartbeats 4000000 in
set_option maxRecDepth 100000 in
theorem hlc_54 {G : GG} {C : CX} {Q : Unit → State → Prop} {kc ks b n : Nat} {xs : Nat → Int32} {K : Int32 → Mem → Option Unit} (hl0 : C.2.1.stackTraces = false) (hC : CO G C "SaturdayKeepLaw" cL_law_ 7 62 kc ks (some .boolean)) (hC1 : CO G C "SaturdayKeepLaw" cL_law_ 7 62 (kc + 1) (ks + 6) (some .boolean)) (hX : SC G C b n xs) (hK : ∀ i μ, AW G C Q (kc + 1) (ks + 6) 7 μ 2965 [some (.ref b), some (.ref (gad G 0 0)), some (.ref (gad G 0 12)), some (.ref (gad G 0 22)), some (.int i), none, none] [] (K i μ)) (i : Int32) (μ : Mem) : AW G C Q kc ks 7 μ 2903 [some (.ref b), some (.ref (gad G 0 0)), some (.ref (gad G 0 12)), some (.ref (gad G 0 22)), some (.int i), none, none] [] (lc_54 xs n K i μ) := by
  have hK0 := fun i μ => aw_wide (Nat.le_succ kc) (Nat.le_add_right ks 6) (hK i μ)
  delta lc_54
  refine aw_aload_n (pc := 2903) (i := 1) hC dL_law__2903 rfl rfl ?_
  refine aw_callVI (pc := 2904) (As := []) hC mb_X9_undo kw543 (by decide) (c_X9_undo G C.2.1   μ ) (v0 (j := 0) (by decide)) rfl rfl rfl (Nat.le_of_ble_eq_true rfl) dL_law__2904 (fun q1 => ?_)
  refine aw_aload_n (pc := 2907) (i := 2) hC dL_law__2907 rfl rfl ?_
  refine aw_callVI (pc := 2908) (As := []) hC mb_X10_undo kw1874 (by decide) (c_X10_undo G C.2.1   q1.2 ) (v0 (j := 12) (by decide)) rfl rfl rfl (Nat.le_of_ble_eq_true rfl) dL_law__2908 (fun q2 => ?_)
  refine aw_icmp_eq (pc := 2911) (tgt := 2965) hC dL_law__2911 (by decide) (fun _ => ?_) (fun _ => ?_)
  · skip
    exact hK0 i q2.2
  · skip
    exact aw_none
theorem dL_law__2916 : decode cL_law_ 2916 = .ok (.aload_n 1, 1) := by decide +kernel
theorem dL_law__2917 : decode cL_law_ 2917 = .ok (.invokevirtual 335, 3) := by decide +kernel
theorem dL_law__2920 : decode cL_law_ 2920 = .ok (.aload_n 2, 1) := by decide +kernel
theorem dL_law__2921 : decode cL_law_ 2921 = .ok (.invokevirtual 338, 3) := by decide +kernel
theorem dL_law__2924 : decode cL_law_ 2924 = .ok (.goto 41, 3) := by decide +kernel
def lc_55 (xs : Nat → Int32) (n : Nat) (K : Int32 → Mem → Option Unit) (i : Int32) (μ : Mem) : Option Unit := (f_X9_image μ).bind fun (q1 : Mem) => (f_X10_image q1).bind fun (q2 : Mem) => K i q2
set_option maxHeartbeats 4000000 in
set_option maxRecDepth 100000 in
theorem hlc_55 {G : GG} {C : CX} {Q : Unit → State → Prop} {kc ks b n : Nat} {xs : Nat → Int32} {K : Int32 → Mem → Option Unit} (hl0 : C.2.1.stackTraces = false) (hC : CO G C "SaturdayKeepLaw" cL_law_ 7 62 kc ks (some .boolean)) (hC1 : CO G C "SaturdayKeepLaw" cL_law_ 7 62 (kc + 1) (ks + 6) (some .boolean)) (hX : SC G C b n xs) (hK : ∀ i μ, AW G C Q (kc + 1) (ks + 6) 7 μ 2965 [some (.ref b), some (.ref (gad G 0 0)), some (.ref (gad G 0 12)), some (.ref (gad G 0 22)), some (.int i), none, none] [] (K i μ)) (i : Int32) (μ : Mem) : AW G C Q kc ks 7 μ 2916 [some (.ref b), some (.ref (gad G 0 0)), some (.ref (gad G 0 12)), some (.ref (gad G 0 22)), some (.int i), none, none] [] (lc_55 xs n K i μ) := by
  have hK0 := fun i μ => aw_wide (Nat.le_succ kc) (Nat.le_add_right ks 6) (hK i μ)
  delta lc_55
  refine aw_aload_n (pc := 2916) (i := 1) hC dL_law__2916 rfl rfl ?_
  refine aw_callVV (pc := 2917) (As := []) hC mb_X9_image kw552 (by decide) (c_X9_image G C.2.1   μ ) (v0 (j := 0) (by decide)) rfl rfl rfl (Nat.le_of_ble_eq_true rfl) dL_law__2917 (fun q1 => ?_)
  refine aw_aload_n (pc := 2920) (i := 2) hC dL_law__2920 rfl rfl ?_
  refine aw_callVV (pc := 2921) (As := []) hC mb_X10_image kw1878 (by decide) (c_X10_image G C.2.1   q1 ) (v0 (j := 12) (by decide)) rfl rfl rfl (Nat.le_of_ble_eq_true rfl) dL_law__2921 (fun q2 => ?_)
  refine aw_goto (pc := 2924) (tgt := 2965) hC dL_law__2924 (by decide) ?_
  exact hK0 i q2
theorem dL_law__2927 : decode cL_law_ 2927 = .ok (.aload_n 1, 1) := by decide +kernel
theorem dL_law__2928 : decode cL_law_ 2928 = .ok (.invokevirtual 339, 3) := by decide +kernel
theorem dL_law__2931 : decode cL_law_ 2931 = .ok (.aload_n 2, 1) := by decide +kernel
theorem dL_law__2932 : decode cL_law_ 2932 = .ok (.invokevirtual 342, 3) := by decide +kernel
theorem dL_law__2935 : decode cL_law_ 2935 = .ok (.if_icmp .eq 30, 3) := by decide +kernel
def lc_56 (xs : Nat → Int32) (n : Nat) (K : Int32 → Mem → Option Unit) (i : Int32) (μ : Mem) : Option Unit := (f_X9_back μ).bind fun (q1 : Int32 × Mem) => (f_X10_back q1.2).bind fun (q2 : Int32 × Mem) => if q1.1 = q2.1 then (K i q2.2) else (none)
set_option maxHeartbeats 4000000 in
set_option maxRecDepth 100000 in
theorem hlc_56 {G : GG} {C : CX} {Q : Unit → State → Prop} {kc ks b n : Nat} {xs : Nat → Int32} {K : Int32 → Mem → Option Unit} (hl0 : C.2.1.stackTraces = false) (hC : CO G C "SaturdayKeepLaw" cL_law_ 7 62 kc ks (some .boolean)) (hC1 : CO G C "SaturdayKeepLaw" cL_law_ 7 62 (kc + 1) (ks + 6) (some .boolean)) (hX : SC G C b n xs) (hK : ∀ i μ, AW G C Q (kc + 1) (ks + 6) 7 μ 2965 [some (.ref b), some (.ref (gad G 0 0)), some (.ref (gad G 0 12)), some (.ref (gad G 0 22)), some (.int i), none, none] [] (K i μ)) (i : Int32) (μ : Mem) : AW G C Q kc ks 7 μ 2927 [some (.ref b), some (.ref (gad G 0 0)), some (.ref (gad G 0 12)), some (.ref (gad G 0 22)), some (.int i), none, none] [] (lc_56 xs n K i μ) := by
  have hK0 := fun i μ => aw_wide (Nat.le_succ kc) (Nat.le_add_right ks 6) (hK i μ)
  delta lc_56
  refine aw_aload_n (pc := 2927) (i := 1) hC dL_law__2927 rfl rfl ?_
  refine aw_callVI (pc := 2928) (As := []) hC mb_X9_back kw556 (by decide) (c_X9_back G C.2.1   μ ) (v0 (j := 0) (by decide)) rfl rfl rfl (Nat.le_of_ble_eq_true rfl) dL_law__2928 (fun q1 => ?_)
  refine aw_aload_n (pc := 2931) (i := 2) hC dL_law__2931 rfl rfl ?_
  refine aw_callVI (pc := 2932) (As := []) hC mb_X10_back kw1882 (by decide) (c_X10_back G C.2.1   q1.2 ) (v0 (j := 12) (by decide)) rfl rfl rfl (Nat.le_of_ble_eq_true rfl) dL_law__2932 (fun q2 => ?_)
  refine aw_icmp_eq (pc := 2935) (tgt := 2965) hC dL_law__2935 (by decide) (fun _ => ?_) (fun _ => ?_)
  · skip
    exact hK0 i q2.2
  · skip
    exact aw_none
theorem dL_law__2940 : decode cL_law_ 2940 = .ok (.aload_n 1, 1) := by decide +kernel
theorem dL_law__2941 : decode cL_law_ 2941 = .ok (.aload_n 0, 1) := by decide +kernel
theorem dL_law__2942 : decode cL_law_ 2942 = .ok (.iload 4, 2) := by decide +kernel
theorem dL_law__2944 : decode cL_law_ 2944 = .ok (.iconst 1, 1) := by decide +kernel
theorem dL_law__2945 : decode cL_law_ 2945 = .ok (.iadd, 1) := by decide +kernel
theorem dL_law__2946 : decode cL_law_ 2946 = .ok (.iaload, 1) := by decide +kernel
theorem dL_law__2947 : decode cL_law_ 2947 = .ok (.invokevirtual 343, 3) := by decide +kernel
theorem dL_law__2950 : decode cL_law_ 2950 = .ok (.aload_n 2, 1) := by decide +kernel
theorem dL_law__2951 : decode cL_law_ 2951 = .ok (.aload_n 0, 1) := by decide +kernel
theorem dL_law__2952 : decode cL_law_ 2952 = .ok (.iload 4, 2) := by decide +kernel
theorem dL_law__2954 : decode cL_law_ 2954 = .ok (.iconst 1, 1) := by decide +kernel
theorem dL_law__2955 : decode cL_law_ 2955 = .ok (.iadd, 1) := by decide +kernel
theorem dL_law__2956 : decode cL_law_ 2956 = .ok (.iaload, 1) := by decide +kernel
theorem dL_law__2957 : decode cL_law_ 2957 = .ok (.invokevirtual 346, 3) := by decide +kernel
theorem dL_law__2960 : decode cL_law_ 2960 = .ok (.if_icmp .eq 5, 3) := by decide +kernel
def lc_57 (xs : Nat → Int32) (n : Nat) (K : Int32 → Mem → Option Unit) (i : Int32) (μ : Mem) : Option Unit := ix (i + 1) n ((f_X9_count μ (xs (i + 1).toNatClampNeg)).bind fun (q1 : Int32) => ix (i + 1) n ((f_X10_count μ (xs (i + 1).toNatClampNeg)).bind fun (q2 : Int32 × Mem) => if q1 = q2.1 then (K i q2.2) else (none)))
set_option maxHeartbeats 4000000 in
set_option maxRecDepth 100000 in
theorem hlc_57 {G : GG} {C : CX} {Q : Unit → State → Prop} {kc ks b n : Nat} {xs : Nat → Int32} {K : Int32 → Mem → Option Unit} (hl0 : C.2.1.stackTraces = false) (hC : CO G C "SaturdayKeepLaw" cL_law_ 7 62 kc ks (some .boolean)) (hC1 : CO G C "SaturdayKeepLaw" cL_law_ 7 62 (kc + 1) (ks + 6) (some .boolean)) (hX : SC G C b n xs) (hK : ∀ i μ, AW G C Q (kc + 1) (ks + 6) 7 μ 2965 [some (.ref b), some (.ref (gad G 0 0)), some (.ref (gad G 0 12)), some (.ref (gad G 0 22)), some (.int i), none, none] [] (K i μ)) (i : Int32) (μ : Mem) : AW G C Q kc ks 7 μ 2940 [some (.ref b), some (.ref (gad G 0 0)), some (.ref (gad G 0 12)), some (.ref (gad G 0 22)), some (.int i), none, none] [] (lc_57 xs n K i μ) := by
  have hK0 := fun i μ => aw_wide (Nat.le_succ kc) (Nat.le_add_right ks 6) (hK i μ)
  delta lc_57
  refine aw_aload_n (pc := 2940) (i := 1) hC dL_law__2940 rfl rfl ?_
  refine aw_aload_n (pc := 2941) (i := 0) hC dL_law__2941 rfl rfl ?_
  refine aw_iload (pc := 2942) hC dL_law__2942 rfl ?_
  refine aw_iconst (pc := 2944) (v := 1) hC dL_law__2944 ic1 ?_
  refine aw_iadd (pc := 2945) hC dL_law__2945 ?_
  refine aw_sld (pc := 2946) hC hX dL_law__2946 ?_
  refine aw_callVR (pc := 2947) (As := [.int (xs (i + 1).toNatClampNeg)]) hC mb_X9_count kw564 (by decide) (c_X9_count G C.2.1   μ (xs (i + 1).toNatClampNeg)) (v0 (j := 0) (by decide)) rfl rfl rfl (Nat.le_of_ble_eq_true rfl) dL_law__2947 (fun q1 => ?_)
  refine aw_aload_n (pc := 2950) (i := 2) hC dL_law__2950 rfl rfl ?_
  refine aw_aload_n (pc := 2951) (i := 0) hC dL_law__2951 rfl rfl ?_
  refine aw_iload (pc := 2952) hC dL_law__2952 rfl ?_
  refine aw_iconst (pc := 2954) (v := 1) hC dL_law__2954 ic1 ?_
  refine aw_iadd (pc := 2955) hC dL_law__2955 ?_
  refine aw_sld (pc := 2956) hC hX dL_law__2956 ?_
  refine aw_callVI (pc := 2957) (As := [.int (xs (i + 1).toNatClampNeg)]) hC mb_X10_count kw1886 (by decide) (c_X10_count G C.2.1   μ (xs (i + 1).toNatClampNeg)) (v0 (j := 12) (by decide)) rfl rfl rfl (Nat.le_of_ble_eq_true rfl) dL_law__2957 (fun q2 => ?_)
  refine aw_icmp_eq (pc := 2960) (tgt := 2965) hC dL_law__2960 (by decide) (fun _ => ?_) (fun _ => ?_)
  · skip
    exact hK0 i q2.2
  · skip
    exact aw_none
theorem dL_law__23 : decode cL_law_ 23 = .ok (.iload 4, 2) := by decide +kernel
theorem dL_law__25 : decode cL_law_ 25 = .ok (.aload_n 0, 1) := by decide +kernel
theorem dL_law__26 : decode cL_law_ 26 = .ok (.arraylength, 1) := by decide +kernel
theorem dL_law__27 : decode cL_law_ 27 = .ok (.bipush 6, 2) := by decide +kernel
theorem dL_law__29 : decode cL_law_ 29 = .ok (.isub, 1) := by decide +kernel
theorem dL_law__30 : decode cL_law_ 30 = .ok (.if_icmp .gt 2941, 3) := by decide +kernel
theorem dL_law__33 : decode cL_law_ 33 = .ok (.aload_n 0, 1) := by decide +kernel
theorem dL_law__34 : decode cL_law_ 34 = .ok (.iload 4, 2) := by decide +kernel
theorem dL_law__36 : decode cL_law_ 36 = .ok (.iaload, 1) := by decide +kernel
theorem dL_law__37 : decode cL_law_ 37 = .ok (.bipush 63, 2) := by decide +kernel
theorem dL_law__39 : decode cL_law_ 39 = .ok (.iand, 1) := by decide +kernel
theorem dL_law__40 : decode cL_law_ 40 = .ok (.tableswitch 2925 0 57 #[248, 321, 346, 390, 434, 447, 515, 583, 667, 742, 810, 901, 992, 1095, 1151, 1207, 1263, 1319, 1375, 1431, 1511, 1524, 1580, 1648, 1661, 1717, 1730, 1743, 1799, 1812, 1825, 1838, 1851, 1876, 1932, 1976, 2020, 2092, 2136, 2149, 2162, 2230, 2243, 2311, 2324, 2337, 2393, 2449, 2505, 2518, 2602, 2686, 2770, 2838, 2863, 2876, 2887, 2900], 248) := by decide +kernel
def lstep (xs : Nat → Int32) (n : Nat) (K : Int32 → Mem → Option Unit) (i : Int32) (μ : Mem) : Option Unit := if ((Int32.ofNat n) - 6) < i then (some ()) else (ix i n (if ((xs i.toNatClampNeg) &&& 63) = 0 then (lc_0 xs n K i μ) else (if ((xs i.toNatClampNeg) &&& 63) = 1 then (lc_1 xs n K i μ) else (if ((xs i.toNatClampNeg) &&& 63) = 2 then (lc_2 xs n K i μ) else (if ((xs i.toNatClampNeg) &&& 63) = 3 then (lc_3 xs n K i μ) else (if ((xs i.toNatClampNeg) &&& 63) = 4 then (lc_4 xs n K i μ) else (if ((xs i.toNatClampNeg) &&& 63) = 5 then (lc_5 xs n K i μ) else (if ((xs i.toNatClampNeg) &&& 63) = 6 then (lc_6 xs n K i μ) else (if ((xs i.toNatClampNeg) &&& 63) = 7 then (lc_7 xs n K i μ) else (if ((xs i.toNatClampNeg) &&& 63) = 8 then (lc_8 xs n K i μ) else (if ((xs i.toNatClampNeg) &&& 63) = 9 then (lc_9 xs n K i μ) else (if ((xs i.toNatClampNeg) &&& 63) = 10 then (lc_10 xs n K i μ) else (if ((xs i.toNatClampNeg) &&& 63) = 11 then (lc_11 xs n K i μ) else (if ((xs i.toNatClampNeg) &&& 63) = 12 then (lc_12 xs n K i μ) else (if ((xs i.toNatClampNeg) &&& 63) = 13 then (lc_13 xs n K i μ) else (if ((xs i.toNatClampNeg) &&& 63) = 14 then (lc_14 xs n K i μ) else (if ((xs i.toNatClampNeg) &&& 63) = 15 then (lc_15 xs n K i μ) else (if ((xs i.toNatClampNeg) &&& 63) = 16 then (lc_16 xs n K i μ) else (if ((xs i.toNatClampNeg) &&& 63) = 17 then (lc_17 xs n K i μ) else (if ((xs i.toNatClampNeg) &&& 63) = 18 then (lc_18 xs n K i μ) else (if ((xs i.toNatClampNeg) &&& 63) = 19 then (lc_19 xs n K i μ) else (if ((xs i.toNatClampNeg) &&& 63) = 20 then (lc_20 xs n K i μ) else (if ((xs i.toNatClampNeg) &&& 63) = 21 then (lc_21 xs n K i μ) else (if ((xs i.toNatClampNeg) &&& 63) = 22 then (lc_22 xs n K i μ) else (if ((xs i.toNatClampNeg) &&& 63) = 23 then (lc_23 xs n K i μ) else (if ((xs i.toNatClampNeg) &&& 63) = 24 then (lc_24 xs n K i μ) else (if ((xs i.toNatClampNeg) &&& 63) = 25 then (lc_25 xs n K i μ) else (if ((xs i.toNatClampNeg) &&& 63) = 26 then (lc_26 xs n K i μ) else (if ((xs i.toNatClampNeg) &&& 63) = 27 then (lc_27 xs n K i μ) else (if ((xs i.toNatClampNeg) &&& 63) = 28 then (lc_28 xs n K i μ) else (if ((xs i.toNatClampNeg) &&& 63) = 29 then (lc_29 xs n K i μ) else (if ((xs i.toNatClampNeg) &&& 63) = 30 then (lc_30 xs n K i μ) else (if ((xs i.toNatClampNeg) &&& 63) = 31 then (lc_31 xs n K i μ) else (if ((xs i.toNatClampNeg) &&& 63) = 32 then (lc_32 xs n K i μ) else (if ((xs i.toNatClampNeg) &&& 63) = 33 then (lc_33 xs n K i μ) else (if ((xs i.toNatClampNeg) &&& 63) = 34 then (lc_34 xs n K i μ) else (if ((xs i.toNatClampNeg) &&& 63) = 35 then (lc_35 xs n K i μ) else (if ((xs i.toNatClampNeg) &&& 63) = 36 then (lc_36 xs n K i μ) else (if ((xs i.toNatClampNeg) &&& 63) = 37 then (lc_37 xs n K i μ) else (if ((xs i.toNatClampNeg) &&& 63) = 38 then (lc_38 xs n K i μ) else (if ((xs i.toNatClampNeg) &&& 63) = 39 then (lc_39 xs n K i μ) else (if ((xs i.toNatClampNeg) &&& 63) = 40 then (lc_40 xs n K i μ) else (if ((xs i.toNatClampNeg) &&& 63) = 41 then (lc_41 xs n K i μ) else (if ((xs i.toNatClampNeg) &&& 63) = 42 then (lc_42 xs n K i μ) else (if ((xs i.toNatClampNeg) &&& 63) = 43 then (lc_43 xs n K i μ) else (if ((xs i.toNatClampNeg) &&& 63) = 44 then (lc_44 xs n K i μ) else (if ((xs i.toNatClampNeg) &&& 63) = 45 then (lc_45 xs n K i μ) else (if ((xs i.toNatClampNeg) &&& 63) = 46 then (lc_46 xs n K i μ) else (if ((xs i.toNatClampNeg) &&& 63) = 47 then (lc_47 xs n K i μ) else (if ((xs i.toNatClampNeg) &&& 63) = 48 then (lc_48 xs n K i μ) else (if ((xs i.toNatClampNeg) &&& 63) = 49 then (lc_49 xs n K i μ) else (if ((xs i.toNatClampNeg) &&& 63) = 50 then (lc_50 xs n K i μ) else (if ((xs i.toNatClampNeg) &&& 63) = 51 then (lc_51 xs n K i μ) else (if ((xs i.toNatClampNeg) &&& 63) = 52 then (lc_52 xs n K i μ) else (if ((xs i.toNatClampNeg) &&& 63) = 53 then (lc_53 xs n K i μ) else (if ((xs i.toNatClampNeg) &&& 63) = 54 then (lc_54 xs n K i μ) else (if ((xs i.toNatClampNeg) &&& 63) = 55 then (lc_55 xs n K i μ) else (if ((xs i.toNatClampNeg) &&& 63) = 56 then (lc_56 xs n K i μ) else (if ((xs i.toNatClampNeg) &&& 63) = 57 then (lc_57 xs n K i μ) else (K i μ))))))))))))))))))))))))))))))))))))))))))))))))))))))))))))
set_option maxHeartbeats 4000000 in
set_option maxRecDepth 100000 in
theorem hlstep {G : GG} {C : CX} {Q : Unit → State → Prop} {kc ks b n : Nat} {xs : Nat → Int32} {K : Int32 → Mem → Option Unit} (hl0 : C.2.1.stackTraces = false) (hC : CO G C "SaturdayKeepLaw" cL_law_ 7 62 kc ks (some .boolean)) (hC1 : CO G C "SaturdayKeepLaw" cL_law_ 7 62 (kc + 1) (ks + 6) (some .boolean)) (hX : SC G C b n xs) (hK : ∀ i μ, AW G C Q (kc + 1) (ks + 6) 7 μ 2965 [some (.ref b), some (.ref (gad G 0 0)), some (.ref (gad G 0 12)), some (.ref (gad G 0 22)), some (.int i), none, none] [] (K i μ)) (i : Int32) (μ : Mem) (hE : AW G C Q kc ks 7 μ 2971 [some (.ref b), some (.ref (gad G 0 0)), some (.ref (gad G 0 12)), some (.ref (gad G 0 22)), some (.int i), none, none] [] (some ())) : AW G C Q kc ks 7 μ 23 [some (.ref b), some (.ref (gad G 0 0)), some (.ref (gad G 0 12)), some (.ref (gad G 0 22)), some (.int i), none, none] [] (lstep xs n K i μ) := by
  have hK0 := fun i μ => aw_wide (Nat.le_succ kc) (Nat.le_add_right ks 6) (hK i μ)
  delta lstep
  refine aw_iload (pc := 23) hC dL_law__23 rfl ?_
  refine aw_aload_n (pc := 25) (i := 0) hC dL_law__25 rfl rfl ?_
  refine aw_slen (pc := 26) hC hX dL_law__26 ?_
  refine aw_bipush (pc := 27) (v := 6) hC dL_law__27 bc6 ?_
  refine aw_isub (pc := 29) hC dL_law__29 ?_
  refine aw_icmp_gt (pc := 30) (tgt := 2971) hC dL_law__30 (by decide) (fun _ => ?_) (fun _ => ?_)
  · skip
    exact hE
  · skip
    refine aw_aload_n (pc := 33) (i := 0) hC dL_law__33 rfl rfl ?_
    refine aw_iload (pc := 34) hC dL_law__34 rfl ?_
    refine aw_sld (pc := 36) hC hX dL_law__36 ?_
    refine aw_bipush (pc := 37) (v := 63) hC dL_law__37 bc63 ?_
    refine aw_iand (pc := 39) hC dL_law__39 ?_
    refine aw_case (k := 0) (fun hc40 => ?_) (fun hn40_0 => ?_)
    · skip
      refine aw_tswIn (pc := 40) (kI := 0) (tgt := 288) hC dL_law__40 hc40 (by decide) (by decide) (by decide) rfl (by decide) ?_
      exact (hlc_0 hl0 hC hC1 hX hK) i μ
    refine aw_case (k := 1) (fun hc40 => ?_) (fun hn40_1 => ?_)
    · skip
      refine aw_tswIn (pc := 40) (kI := 1) (tgt := 361) hC dL_law__40 hc40 (by decide) (by decide) (by decide) rfl (by decide) ?_
      exact (hlc_1 hl0 hC hC1 hX hK) i μ
    refine aw_case (k := 2) (fun hc40 => ?_) (fun hn40_2 => ?_)
    · skip
      refine aw_tswIn (pc := 40) (kI := 2) (tgt := 386) hC dL_law__40 hc40 (by decide) (by decide) (by decide) rfl (by decide) ?_
      exact (hlc_2 hl0 hC hC1 hX hK) i μ
    refine aw_case (k := 3) (fun hc40 => ?_) (fun hn40_3 => ?_)
    · skip
      refine aw_tswIn (pc := 40) (kI := 3) (tgt := 430) hC dL_law__40 hc40 (by decide) (by decide) (by decide) rfl (by decide) ?_
      exact (hlc_3 hl0 hC hC1 hX hK) i μ
    refine aw_case (k := 4) (fun hc40 => ?_) (fun hn40_4 => ?_)
    · skip
      refine aw_tswIn (pc := 40) (kI := 4) (tgt := 474) hC dL_law__40 hc40 (by decide) (by decide) (by decide) rfl (by decide) ?_
      exact (hlc_4 hl0 hC hC1 hX hK) i μ
    refine aw_case (k := 5) (fun hc40 => ?_) (fun hn40_5 => ?_)
    · skip
      refine aw_tswIn (pc := 40) (kI := 5) (tgt := 487) hC dL_law__40 hc40 (by decide) (by decide) (by decide) rfl (by decide) ?_
      exact (hlc_5 hl0 hC hC1 hX hK) i μ
    refine aw_case (k := 6) (fun hc40 => ?_) (fun hn40_6 => ?_)
    · skip
      refine aw_tswIn (pc := 40) (kI := 6) (tgt := 555) hC dL_law__40 hc40 (by decide) (by decide) (by decide) rfl (by decide) ?_
      exact (hlc_6 hl0 hC hC1 hX hK) i μ
    refine aw_case (k := 7) (fun hc40 => ?_) (fun hn40_7 => ?_)
    · skip
      refine aw_tswIn (pc := 40) (kI := 7) (tgt := 623) hC dL_law__40 hc40 (by decide) (by decide) (by decide) rfl (by decide) ?_
      exact (hlc_7 hl0 hC hC1 hX hK) i μ
    refine aw_case (k := 8) (fun hc40 => ?_) (fun hn40_8 => ?_)
    · skip
      refine aw_tswIn (pc := 40) (kI := 8) (tgt := 707) hC dL_law__40 hc40 (by decide) (by decide) (by decide) rfl (by decide) ?_
      exact (hlc_8 hl0 hC hC1 hX hK) i μ
    refine aw_case (k := 9) (fun hc40 => ?_) (fun hn40_9 => ?_)
    · skip
      refine aw_tswIn (pc := 40) (kI := 9) (tgt := 782) hC dL_law__40 hc40 (by decide) (by decide) (by decide) rfl (by decide) ?_
      exact (hlc_9 hl0 hC hC1 hX hK) i μ
    refine aw_case (k := 10) (fun hc40 => ?_) (fun hn40_10 => ?_)
    · skip
      refine aw_tswIn (pc := 40) (kI := 10) (tgt := 850) hC dL_law__40 hc40 (by decide) (by decide) (by decide) rfl (by decide) ?_
      exact (hlc_10 hl0 hC hC1 hX hK) i μ
    refine aw_case (k := 11) (fun hc40 => ?_) (fun hn40_11 => ?_)
    · skip
      refine aw_tswIn (pc := 40) (kI := 11) (tgt := 941) hC dL_law__40 hc40 (by decide) (by decide) (by decide) rfl (by decide) ?_
      exact (hlc_11 hl0 hC hC1 hX hK) i μ
    refine aw_case (k := 12) (fun hc40 => ?_) (fun hn40_12 => ?_)
    · skip
      refine aw_tswIn (pc := 40) (kI := 12) (tgt := 1032) hC dL_law__40 hc40 (by decide) (by decide) (by decide) rfl (by decide) ?_
      exact (hlc_12 hl0 hC hC1 hX hK) i μ
    refine aw_case (k := 13) (fun hc40 => ?_) (fun hn40_13 => ?_)
    · skip
      refine aw_tswIn (pc := 40) (kI := 13) (tgt := 1135) hC dL_law__40 hc40 (by decide) (by decide) (by decide) rfl (by decide) ?_
      exact (hlc_13 hl0 hC hC1 hX hK) i μ
    refine aw_case (k := 14) (fun hc40 => ?_) (fun hn40_14 => ?_)
    · skip
      refine aw_tswIn (pc := 40) (kI := 14) (tgt := 1191) hC dL_law__40 hc40 (by decide) (by decide) (by decide) rfl (by decide) ?_
      exact (hlc_14 hl0 hC hC1 hX hK) i μ
    refine aw_case (k := 15) (fun hc40 => ?_) (fun hn40_15 => ?_)
    · skip
      refine aw_tswIn (pc := 40) (kI := 15) (tgt := 1247) hC dL_law__40 hc40 (by decide) (by decide) (by decide) rfl (by decide) ?_
      exact (hlc_15 hl0 hC hC1 hX hK) i μ
    refine aw_case (k := 16) (fun hc40 => ?_) (fun hn40_16 => ?_)
    · skip
      refine aw_tswIn (pc := 40) (kI := 16) (tgt := 1303) hC dL_law__40 hc40 (by decide) (by decide) (by decide) rfl (by decide) ?_
      exact (hlc_16 hl0 hC hC1 hX hK) i μ
    refine aw_case (k := 17) (fun hc40 => ?_) (fun hn40_17 => ?_)
    · skip
      refine aw_tswIn (pc := 40) (kI := 17) (tgt := 1359) hC dL_law__40 hc40 (by decide) (by decide) (by decide) rfl (by decide) ?_
      exact (hlc_17 hl0 hC hC1 hX hK) i μ
    refine aw_case (k := 18) (fun hc40 => ?_) (fun hn40_18 => ?_)
    · skip
      refine aw_tswIn (pc := 40) (kI := 18) (tgt := 1415) hC dL_law__40 hc40 (by decide) (by decide) (by decide) rfl (by decide) ?_
      exact (hlc_18 hl0 hC hC1 hX hK) i μ
    refine aw_case (k := 19) (fun hc40 => ?_) (fun hn40_19 => ?_)
    · skip
      refine aw_tswIn (pc := 40) (kI := 19) (tgt := 1471) hC dL_law__40 hc40 (by decide) (by decide) (by decide) rfl (by decide) ?_
      exact (hlc_19 hl0 hC hC1 hX hK) i μ
    refine aw_case (k := 20) (fun hc40 => ?_) (fun hn40_20 => ?_)
    · skip
      refine aw_tswIn (pc := 40) (kI := 20) (tgt := 1551) hC dL_law__40 hc40 (by decide) (by decide) (by decide) rfl (by decide) ?_
      exact (hlc_20 hl0 hC hC1 hX hK) i μ
    refine aw_case (k := 21) (fun hc40 => ?_) (fun hn40_21 => ?_)
    · skip
      refine aw_tswIn (pc := 40) (kI := 21) (tgt := 1564) hC dL_law__40 hc40 (by decide) (by decide) (by decide) rfl (by decide) ?_
      exact (hlc_21 hl0 hC hC1 hX hK) i μ
    refine aw_case (k := 22) (fun hc40 => ?_) (fun hn40_22 => ?_)
    · skip
      refine aw_tswIn (pc := 40) (kI := 22) (tgt := 1620) hC dL_law__40 hc40 (by decide) (by decide) (by decide) rfl (by decide) ?_
      exact (hlc_22 hl0 hC hC1 hX hK) i μ
    refine aw_case (k := 23) (fun hc40 => ?_) (fun hn40_23 => ?_)
    · skip
      refine aw_tswIn (pc := 40) (kI := 23) (tgt := 1688) hC dL_law__40 hc40 (by decide) (by decide) (by decide) rfl (by decide) ?_
      exact (hlc_23 hl0 hC hC1 hX hK) i μ
    refine aw_case (k := 24) (fun hc40 => ?_) (fun hn40_24 => ?_)
    · skip
      refine aw_tswIn (pc := 40) (kI := 24) (tgt := 1701) hC dL_law__40 hc40 (by decide) (by decide) (by decide) rfl (by decide) ?_
      exact (hlc_24 hl0 hC hC1 hX hK) i μ
    refine aw_case (k := 25) (fun hc40 => ?_) (fun hn40_25 => ?_)
    · skip
      refine aw_tswIn (pc := 40) (kI := 25) (tgt := 1757) hC dL_law__40 hc40 (by decide) (by decide) (by decide) rfl (by decide) ?_
      exact (hlc_25 hl0 hC hC1 hX hK) i μ
    refine aw_case (k := 26) (fun hc40 => ?_) (fun hn40_26 => ?_)
    · skip
      refine aw_tswIn (pc := 40) (kI := 26) (tgt := 1770) hC dL_law__40 hc40 (by decide) (by decide) (by decide) rfl (by decide) ?_
      exact (hlc_26 hl0 hC hC1 hX hK) i μ
    refine aw_case (k := 27) (fun hc40 => ?_) (fun hn40_27 => ?_)
    · skip
      refine aw_tswIn (pc := 40) (kI := 27) (tgt := 1783) hC dL_law__40 hc40 (by decide) (by decide) (by decide) rfl (by decide) ?_
      exact (hlc_27 hl0 hC hC1 hX hK) i μ
    refine aw_case (k := 28) (fun hc40 => ?_) (fun hn40_28 => ?_)
    · skip
      refine aw_tswIn (pc := 40) (kI := 28) (tgt := 1839) hC dL_law__40 hc40 (by decide) (by decide) (by decide) rfl (by decide) ?_
      exact (hlc_28 hl0 hC hC1 hX hK) i μ
    refine aw_case (k := 29) (fun hc40 => ?_) (fun hn40_29 => ?_)
    · skip
      refine aw_tswIn (pc := 40) (kI := 29) (tgt := 1852) hC dL_law__40 hc40 (by decide) (by decide) (by decide) rfl (by decide) ?_
      exact (hlc_29 hl0 hC hC1 hX hK) i μ
    refine aw_case (k := 30) (fun hc40 => ?_) (fun hn40_30 => ?_)
    · skip
      refine aw_tswIn (pc := 40) (kI := 30) (tgt := 1865) hC dL_law__40 hc40 (by decide) (by decide) (by decide) rfl (by decide) ?_
      exact (hlc_30 hl0 hC hC1 hX hK) i μ
    refine aw_case (k := 31) (fun hc40 => ?_) (fun hn40_31 => ?_)
    · skip
      refine aw_tswIn (pc := 40) (kI := 31) (tgt := 1878) hC dL_law__40 hc40 (by decide) (by decide) (by decide) rfl (by decide) ?_
      exact (hlc_31 hl0 hC hC1 hX hK) i μ
    refine aw_case (k := 32) (fun hc40 => ?_) (fun hn40_32 => ?_)
    · skip
      refine aw_tswIn (pc := 40) (kI := 32) (tgt := 1891) hC dL_law__40 hc40 (by decide) (by decide) (by decide) rfl (by decide) ?_
      exact (hlc_32 hl0 hC hC1 hX hK) i μ
    refine aw_case (k := 33) (fun hc40 => ?_) (fun hn40_33 => ?_)
    · skip
      refine aw_tswIn (pc := 40) (kI := 33) (tgt := 1916) hC dL_law__40 hc40 (by decide) (by decide) (by decide) rfl (by decide) ?_
      exact (hlc_33 hl0 hC hC1 hX hK) i μ
    refine aw_case (k := 34) (fun hc40 => ?_) (fun hn40_34 => ?_)
    · skip
      refine aw_tswIn (pc := 40) (kI := 34) (tgt := 1972) hC dL_law__40 hc40 (by decide) (by decide) (by decide) rfl (by decide) ?_
      exact (hlc_34 hl0 hC hC1 hX hK) i μ
    refine aw_case (k := 35) (fun hc40 => ?_) (fun hn40_35 => ?_)
    · skip
      refine aw_tswIn (pc := 40) (kI := 35) (tgt := 2016) hC dL_law__40 hc40 (by decide) (by decide) (by decide) rfl (by decide) ?_
      exact (hlc_35 hl0 hC hC1 hX hK) i μ
    refine aw_case (k := 36) (fun hc40 => ?_) (fun hn40_36 => ?_)
    · skip
      refine aw_tswIn (pc := 40) (kI := 36) (tgt := 2060) hC dL_law__40 hc40 (by decide) (by decide) (by decide) rfl (by decide) ?_
      exact (hlc_36 hl0 hC hC1 hX hK) i μ
    refine aw_case (k := 37) (fun hc40 => ?_) (fun hn40_37 => ?_)
    · skip
      refine aw_tswIn (pc := 40) (kI := 37) (tgt := 2132) hC dL_law__40 hc40 (by decide) (by decide) (by decide) rfl (by decide) ?_
      exact (hlc_37 hl0 hC hC1 hX hK) i μ
    refine aw_case (k := 38) (fun hc40 => ?_) (fun hn40_38 => ?_)
    · skip
      refine aw_tswIn (pc := 40) (kI := 38) (tgt := 2176) hC dL_law__40 hc40 (by decide) (by decide) (by decide) rfl (by decide) ?_
      exact (hlc_38 hl0 hC hC1 hX hK) i μ
    refine aw_case (k := 39) (fun hc40 => ?_) (fun hn40_39 => ?_)
    · skip
      refine aw_tswIn (pc := 40) (kI := 39) (tgt := 2189) hC dL_law__40 hc40 (by decide) (by decide) (by decide) rfl (by decide) ?_
      exact (hlc_39 hl0 hC hC1 hX hK) i μ
    refine aw_case (k := 40) (fun hc40 => ?_) (fun hn40_40 => ?_)
    · skip
      refine aw_tswIn (pc := 40) (kI := 40) (tgt := 2202) hC dL_law__40 hc40 (by decide) (by decide) (by decide) rfl (by decide) ?_
      exact (hlc_40 hl0 hC hC1 hX hK) i μ
    refine aw_case (k := 41) (fun hc40 => ?_) (fun hn40_41 => ?_)
    · skip
      refine aw_tswIn (pc := 40) (kI := 41) (tgt := 2270) hC dL_law__40 hc40 (by decide) (by decide) (by decide) rfl (by decide) ?_
      exact (hlc_41 hl0 hC hC1 hX hK) i μ
    refine aw_case (k := 42) (fun hc40 => ?_) (fun hn40_42 => ?_)
    · skip
      refine aw_tswIn (pc := 40) (kI := 42) (tgt := 2283) hC dL_law__40 hc40 (by decide) (by decide) (by decide) rfl (by decide) ?_
      exact (hlc_42 hl0 hC hC1 hX hK) i μ
    refine aw_case (k := 43) (fun hc40 => ?_) (fun hn40_43 => ?_)
    · skip
      refine aw_tswIn (pc := 40) (kI := 43) (tgt := 2351) hC dL_law__40 hc40 (by decide) (by decide) (by decide) rfl (by decide) ?_
      exact (hlc_43 hl0 hC hC1 hX hK) i μ
    refine aw_case (k := 44) (fun hc40 => ?_) (fun hn40_44 => ?_)
    · skip
      refine aw_tswIn (pc := 40) (kI := 44) (tgt := 2364) hC dL_law__40 hc40 (by decide) (by decide) (by decide) rfl (by decide) ?_
      exact (hlc_44 hl0 hC hC1 hX hK) i μ
    refine aw_case (k := 45) (fun hc40 => ?_) (fun hn40_45 => ?_)
    · skip
      refine aw_tswIn (pc := 40) (kI := 45) (tgt := 2377) hC dL_law__40 hc40 (by decide) (by decide) (by decide) rfl (by decide) ?_
      exact (hlc_45 hl0 hC hC1 hX hK) i μ
    refine aw_case (k := 46) (fun hc40 => ?_) (fun hn40_46 => ?_)
    · skip
      refine aw_tswIn (pc := 40) (kI := 46) (tgt := 2433) hC dL_law__40 hc40 (by decide) (by decide) (by decide) rfl (by decide) ?_
      exact (hlc_46 hl0 hC hC1 hX hK) i μ
    refine aw_case (k := 47) (fun hc40 => ?_) (fun hn40_47 => ?_)
    · skip
      refine aw_tswIn (pc := 40) (kI := 47) (tgt := 2489) hC dL_law__40 hc40 (by decide) (by decide) (by decide) rfl (by decide) ?_
      exact (hlc_47 hl0 hC hC1 hX hK) i μ
    refine aw_case (k := 48) (fun hc40 => ?_) (fun hn40_48 => ?_)
    · skip
      refine aw_tswIn (pc := 40) (kI := 48) (tgt := 2545) hC dL_law__40 hc40 (by decide) (by decide) (by decide) rfl (by decide) ?_
      exact (hlc_48 hl0 hC hC1 hX hK) i μ
    refine aw_case (k := 49) (fun hc40 => ?_) (fun hn40_49 => ?_)
    · skip
      refine aw_tswIn (pc := 40) (kI := 49) (tgt := 2558) hC dL_law__40 hc40 (by decide) (by decide) (by decide) rfl (by decide) ?_
      exact (hlc_49 hl0 hC hC1 hX hK) i μ
    refine aw_case (k := 50) (fun hc40 => ?_) (fun hn40_50 => ?_)
    · skip
      refine aw_tswIn (pc := 40) (kI := 50) (tgt := 2642) hC dL_law__40 hc40 (by decide) (by decide) (by decide) rfl (by decide) ?_
      exact (hlc_50 hl0 hC hC1 hX hK) i μ
    refine aw_case (k := 51) (fun hc40 => ?_) (fun hn40_51 => ?_)
    · skip
      refine aw_tswIn (pc := 40) (kI := 51) (tgt := 2726) hC dL_law__40 hc40 (by decide) (by decide) (by decide) rfl (by decide) ?_
      exact (hlc_51 hl0 hC hC1 hX hK) i μ
    refine aw_case (k := 52) (fun hc40 => ?_) (fun hn40_52 => ?_)
    · skip
      refine aw_tswIn (pc := 40) (kI := 52) (tgt := 2810) hC dL_law__40 hc40 (by decide) (by decide) (by decide) rfl (by decide) ?_
      exact (hlc_52 hl0 hC hC1 hX hK) i μ
    refine aw_case (k := 53) (fun hc40 => ?_) (fun hn40_53 => ?_)
    · skip
      refine aw_tswIn (pc := 40) (kI := 53) (tgt := 2878) hC dL_law__40 hc40 (by decide) (by decide) (by decide) rfl (by decide) ?_
      exact (hlc_53 hl0 hC hC1 hX hK) i μ
    refine aw_case (k := 54) (fun hc40 => ?_) (fun hn40_54 => ?_)
    · skip
      refine aw_tswIn (pc := 40) (kI := 54) (tgt := 2903) hC dL_law__40 hc40 (by decide) (by decide) (by decide) rfl (by decide) ?_
      exact (hlc_54 hl0 hC hC1 hX hK) i μ
    refine aw_case (k := 55) (fun hc40 => ?_) (fun hn40_55 => ?_)
    · skip
      refine aw_tswIn (pc := 40) (kI := 55) (tgt := 2916) hC dL_law__40 hc40 (by decide) (by decide) (by decide) rfl (by decide) ?_
      exact (hlc_55 hl0 hC hC1 hX hK) i μ
    refine aw_case (k := 56) (fun hc40 => ?_) (fun hn40_56 => ?_)
    · skip
      refine aw_tswIn (pc := 40) (kI := 56) (tgt := 2927) hC dL_law__40 hc40 (by decide) (by decide) (by decide) rfl (by decide) ?_
      exact (hlc_56 hl0 hC hC1 hX hK) i μ
    refine aw_case (k := 57) (fun hc40 => ?_) (fun hn40_57 => ?_)
    · skip
      refine aw_tswIn (pc := 40) (kI := 57) (tgt := 2940) hC dL_law__40 hc40 (by decide) (by decide) (by decide) rfl (by decide) ?_
      exact (hlc_57 hl0 hC hC1 hX hK) i μ
    refine aw_tswOut (pc := 40) (tgt := 2965) hC dL_law__40 (by have e0 := lv_neT (a := 0) hn40_0 (by decide); have e1 := lv_neT (a := 1) hn40_1 (by decide); have e2 := lv_neT (a := 2) hn40_2 (by decide); have e3 := lv_neT (a := 3) hn40_3 (by decide); have e4 := lv_neT (a := 4) hn40_4 (by decide); have e5 := lv_neT (a := 5) hn40_5 (by decide); have e6 := lv_neT (a := 6) hn40_6 (by decide); have e7 := lv_neT (a := 7) hn40_7 (by decide); have e8 := lv_neT (a := 8) hn40_8 (by decide); have e9 := lv_neT (a := 9) hn40_9 (by decide); have e10 := lv_neT (a := 10) hn40_10 (by decide); have e11 := lv_neT (a := 11) hn40_11 (by decide); have e12 := lv_neT (a := 12) hn40_12 (by decide); have e13 := lv_neT (a := 13) hn40_13 (by decide); have e14 := lv_neT (a := 14) hn40_14 (by decide); have e15 := lv_neT (a := 15) hn40_15 (by decide); have e16 := lv_neT (a := 16) hn40_16 (by decide); have e17 := lv_neT (a := 17) hn40_17 (by decide); have e18 := lv_neT (a := 18) hn40_18 (by decide); have e19 := lv_neT (a := 19) hn40_19 (by decide); have e20 := lv_neT (a := 20) hn40_20 (by decide); have e21 := lv_neT (a := 21) hn40_21 (by decide); have e22 := lv_neT (a := 22) hn40_22 (by decide); have e23 := lv_neT (a := 23) hn40_23 (by decide); have e24 := lv_neT (a := 24) hn40_24 (by decide); have e25 := lv_neT (a := 25) hn40_25 (by decide); have e26 := lv_neT (a := 26) hn40_26 (by decide); have e27 := lv_neT (a := 27) hn40_27 (by decide); have e28 := lv_neT (a := 28) hn40_28 (by decide); have e29 := lv_neT (a := 29) hn40_29 (by decide); have e30 := lv_neT (a := 30) hn40_30 (by decide); have e31 := lv_neT (a := 31) hn40_31 (by decide); have e32 := lv_neT (a := 32) hn40_32 (by decide); have e33 := lv_neT (a := 33) hn40_33 (by decide); have e34 := lv_neT (a := 34) hn40_34 (by decide); have e35 := lv_neT (a := 35) hn40_35 (by decide); have e36 := lv_neT (a := 36) hn40_36 (by decide); have e37 := lv_neT (a := 37) hn40_37 (by decide); have e38 := lv_neT (a := 38) hn40_38 (by decide); have e39 := lv_neT (a := 39) hn40_39 (by decide); have e40 := lv_neT (a := 40) hn40_40 (by decide); have e41 := lv_neT (a := 41) hn40_41 (by decide); have e42 := lv_neT (a := 42) hn40_42 (by decide); have e43 := lv_neT (a := 43) hn40_43 (by decide); have e44 := lv_neT (a := 44) hn40_44 (by decide); have e45 := lv_neT (a := 45) hn40_45 (by decide); have e46 := lv_neT (a := 46) hn40_46 (by decide); have e47 := lv_neT (a := 47) hn40_47 (by decide); have e48 := lv_neT (a := 48) hn40_48 (by decide); have e49 := lv_neT (a := 49) hn40_49 (by decide); have e50 := lv_neT (a := 50) hn40_50 (by decide); have e51 := lv_neT (a := 51) hn40_51 (by decide); have e52 := lv_neT (a := 52) hn40_52 (by decide); have e53 := lv_neT (a := 53) hn40_53 (by decide); have e54 := lv_neT (a := 54) hn40_54 (by decide); have e55 := lv_neT (a := 55) hn40_55 (by decide); have e56 := lv_neT (a := 56) hn40_56 (by decide); have e57 := lv_neT (a := 57) hn40_57 (by decide); omega) (by decide) ?_
    exact hK0 i μ
theorem dL_law__2965 : decode cL_law_ 2965 = .ok (.iinc 4 6, 3) := by decide +kernel
theorem dL_law__2968 : decode cL_law_ 2968 = .ok (.goto (-2945), 3) := by decide +kernel
def lloop (xs : Nat → Int32) (n : Nat) : Nat → Int32 → Mem → Option Unit
  | 0, _, _ => none
  | f + 1, i, μ => lstep xs n (fun i μ => lloop xs n f (i + 6) μ) i μ
theorem hlloop {G : GG} {C : CX} {Q : Unit → State → Prop} {b n : Nat} {xs : Nat → Int32} (hl0 : C.2.1.stackTraces = false) (hC : CO G C "SaturdayKeepLaw" cL_law_ 7 62 0 0 (some .boolean)) (hX : SC G C b n xs) (hE : ∀ kc ks i μ, kc ≤ (cR C).cells → ks ≤ (cR C).slots → AW G C Q kc ks 7 μ 2971 [some (.ref b), some (.ref (gad G 0 0)), some (.ref (gad G 0 12)), some (.ref (gad G 0 22)), some (.int i), none, none] [] (some ())) : ∀ (f kc ks : Nat) (i : Int32) (μ : Mem), kc + f ≤ (cR C).cells → ks + 6 * f ≤ (cR C).slots → AW G C Q kc ks 7 μ 23 [some (.ref b), some (.ref (gad G 0 0)), some (.ref (gad G 0 12)), some (.ref (gad G 0 22)), some (.int i), none, none] [] (lloop xs n f i μ)
  | 0, _, _, _, _, _, _ => aw_none
  | f + 1, kc, ks, i, μ, h1, h2 => by
    rw [lloop]
    have hC0 := hC.to (k' := kc) (n' := ks) (by omega) (by omega)
    have hC1 := hC.to (k' := kc + 1) (n' := ks + 6) (by omega) (by omega)
    refine hlstep hl0 hC0 hC1 hX (fun i μ => ?_) i μ (hE kc ks i μ (by omega) (by omega))
    refine aw_iinc (pc := 2965) (v := i + 6) hC1 dL_law__2965 rfl (congrArg (HAdd.hAdd _) ic6) rfl (by decide) ?_
    refine aw_goto (pc := 2968) (tgt := 23) hC1 dL_law__2968 (by decide) ?_
    exact hlloop hl0 hC hX hE f (kc + 1) (ks + 6) (i + 6) μ (by omega) (by omega)
