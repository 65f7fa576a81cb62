/-! ===== the law's helpers: methods with a table of their own, that catch what the class throws ===== -/
def CHL (G : GG) (l : Launch) (y : MethodName) (c0 : Cond) (lvl : Nat) (vs : List Value) (μ : Mem) (E : Option (Int32 × Mem)) : Prop := ∀ x, E = some x → Met l y (c0 :: BIG) (rmX lvl) (va_Pc vs (Inv G μ)) (qcI G x) 1 6 (gA G)
theorem CHL.of {G : GG} {l : Launch} {y : MethodName} {cc : ByteArray} {nL : Nat} {ret : Option FieldType} {hh : List (Nat × Nat × Nat × Nat)} {lvl : Nat} {vs : List Value} {L0 : List (Option Value)} {μ : Mem} {E : Option (Int32 × Mem)} {own : String} (ho : y.cls = own) (hy : plainName y.cls = true) (hL : lv_args 0 vs = asc 0 L0) (hn : (lg_sl vs).length ≤ nL)
    (body : ∀ C : CX, C.2.1 = l → 1 ≤ (cR C).cells ∧ 6 ≤ (cR C).slots → (cC C).exceptionTable.toList = tableOf hh → CO G C own cc nL lvl 0 0 ret → CO G C own cc nL lvl 1 6 ret → AW G C (qI G C 1 6) 0 0 nL μ 0 L0 [] E) : CHL G l y (.codeWith y cc nL ret hh) lvl vs μ E := by
  intro x hx
  refine va_MetW (cc := cc) (maxL := nL) (ret := ret) (hh := hh) hy rfl ?_
  intro p e s m args below meth c s₁ B hml hv
  obtain ⟨rfl, hP, hK, hI⟩ := hv
  have hts := atoms_spec (ws := Cond.codeWith y cc nL ret hh :: BIG) B.pre
  have hC : ∀ a b : Nat, a ≤ 1 → b ≤ 6 → CO G (p, l, e, rmX lvl, s, m, vs.toArray, below, meth, c) own cc nL lvl a b ret := fun a b ha hb =>
    ⟨B.exec, B.bytes, hml, by rw [← ho]; exact findClass_of_methodNamed B.named, fun w hw => hts w (List.mem_cons_of_mem _ hw), B.notSynchronized, hK, hI, ⟨Nat.le_refl _, Nat.le_refl _, ha, hb⟩, B.returns⟩
  have hl := lv_entry vs (n := nL) hn
  rw [hL] at hl
  rw [lg_entry_eq]
  exact body (p, l, e, rmX lvl, s, m, vs.toArray, below, meth, c) rfl ⟨Nat.le_refl _, Nat.le_refl _⟩ (vx_table (x := y) B (hts _ List.mem_cons_self)) (hC 0 0 (by decide) (by decide)) (hC 1 6 (by decide) (by decide)) x hx _ _ _ hP va_S.rf hl
/-- what is thrown at pc goes to the handler at hpc -/
def CTL (C : CX) (own : String) (pc i hpc : Nat) : Prop := ∃ (pre : List ExceptionTableEntry) (x : ExceptionTableEntry) (suf : List ExceptionTableEntry) (E : String), xname i = some E ∧ (cC C).exceptionTable.toList = pre ++ x :: suf ∧ (∀ z ∈ pre, covers z pc = false ∨ (z.catchType ≠ 0 ∧ ∃ nm : String, Cond.classLink own z.catchType nm ∈ BIG ∧ (E, nm) ∈ ncL)) ∧ covers x pc = true ∧ x.catchType ≠ 0 ∧ Cond.classLink own x.catchType E ∈ BIG ∧ Cond.castable E E ∈ lw_tbl ∧ x.handlerPc = hpc
section CALLX
variable {τ : Type} {G : GG} {C : CX} {own : String} {cc : ByteArray} {nL lvl : Nat} {ret : Option FieldType} {Q : τ → State → Prop} {μ : Mem} {pc : Nat} {L : List (Option Value)} {rest : List Value} {y : MethodName} {bytes : ByteArray} {maxL index n lv : Nat} {rt : Option FieldType} {As : List Value}
theorem cbxX (hC : CO G C own cc nL lvl 0 0 ret) (hl : Cond.methodLink own index y ∈ BIG) (hcd : Cond.code y bytes maxL rt ∈ BIG) (hini : Cond.initialized y.cls ∈ BIG) (hd : y.cls ≠ "java/lang/invoke/MethodHandle" ∧ y.cls ≠ "java/lang/invoke/VarHandle" ∧ (parseMethodDescriptor y.desc).map (fun d => d.parameters.length) = some n) (hmx : maxL ≤ 40) (hlv : lv < lvl) :
    CallB (cR C) (cS C) (cArgs C) own index y bytes maxL rt (Cond.code y bytes maxL rt :: BIG) (rmX lv) 1 6 n := by
  have hr := hC.rm
  exact callB_of n hC.ws (big_goodB _ hcd) rfl rfl rfl (hC.w hini) (hC.w hl) hd ⟨by show 2 * lv + 1 ≤ _; omega, by show 8 + (maxL + 11) + 64 * lv ≤ _; omega⟩
theorem keepS {H H1 : Heap} {locs L' : List Loc} {st t : State} (hS : va_S (gA G) (cS C).heap H locs) (h0 : st.heap = H) (e1 : H1 = t.heap) (hF : va_F (gA G) st t) (hL : ∀ q ∈ L', gA G q.base) : va_S (gA G) (cS C).heap H1 (locs ++ L') := by
  obtain ⟨hz, hk⟩ := hF
  rw [h0] at hz hk
  refine ⟨Nat.le_trans hS.1 (by rw [e1]; exact hz), fun q h1 h2 => by rw [e1, hk q (Nat.lt_of_lt_of_le h1 hS.1) h2]; exact hS.2.1 q h1 h2, fun q hq => ?_⟩
  rcases List.mem_append.mp hq with h | h
  · exact hS.2.2 q h
  · exact hL q h
theorem aw_callVX {g j ci N : Nat} {C0 : String} {T : u_T} {fs : List Value} {E1 : Option (Nat × Int32 × Mem)} {k : Nat × Int32 × Mem → Option τ} (hC : CO G C own cc nL lvl 0 0 ret) (hcs : 1 ≤ (cR C).cells ∧ 6 ≤ (cR C).slots) (hB : MB y bytes maxL rt n) (hl : Cond.methodLink own index y ∈ BIG) (hlv : lv < lvl) (hM : CXT G C.2.1 y (.code y bytes maxL rt) lv (.ref (gad G g j) :: As) μ E1) (hv : vld g j) (he : ent G g j (μ g j) = .inr (ci, fs)) (hc : vwCl[ci]? = some (C0, T, N)) (hcy : C0 = y.cls) (hn : As.length = n) (hr8 : (rest.map fun v => v.category).sum ≤ 8) (hd : decode cc pc = .ok (.invokevirtual index, 3))
    (k0 : ∀ v μ', AW G C Q 1 6 nL μ' (pc + 3) L (.int v :: rest) (k (0, v, μ')))
    (kx : ∀ i v μ', xname i ≠ none → k (i, v, μ') = none ∨ ∃ hpc : Nat, CTL C own pc i hpc ∧ ∀ q : Nat, AW G C Q 1 6 nL μ' hpc L [.ref q] (k (i, v, μ'))) : AW G C Q 0 0 nL μ pc L (As.reverse ++ .ref (gad G g j) :: rest) (E1.bind k) := by
  intro x hx H locs ls hP hS hL
  subst hcy
  cases hE : E1 with
  | none => rw [hE] at hx; cases hx
  | some q =>
    rw [hE] at hx
    have hr := vx_runV (p := C.1) (l := C.2.1) (e := C.2.2.1) (R := cR C) (s := cS C) (m := cM C) (args := cArgs C) (below := cBel C) (meth := cMe C) (c := cC C) (H := H) (locs := locs) (cells := 0) (slots := 0) (g := F0 (cM C) pc ls (As.reverse ++ .ref (gad G g j) :: rest)) (rest := rest) (nL := nL) (Ts := BIG) (own := own) (C := y.cls) ⟨hC.x, hC.b, hC.ml, hC.ow, hC.ws⟩ (hM q hE) ⟨cbxX hC hl hB.1 hB.2.2.2.1 hB.2.2.2.2.1 hB.2.2.2.2.2 hlv, hC.w hB.2.1, hC.w hB.2.2.1⟩ ⟨Inv_blind _, rcv hC hv he hc hP, fun U hU hW => ⟨rfl, Inv_of hC hP hS hU hW⟩⟩ rfl hn hL.1 rfl (lv_room hr8) hd ⟨by omega, by omega⟩
    intro T' hT X
    rcases hr T' hT X with ⟨v, st₀, t, T2, L', h0, X', hL', e1, e2, hq, hst⟩ | ⟨a, st₀, t, T2, L', E, ce, h0, X', hL', e1, e2, hq, hce, hcv, hcl, hst⟩
    · obtain ⟨hz, hv1, hP1, hF⟩ := hq
      cases hv1
      have hq3 : q = (0, q.2.1, q.2.2) := Prod.ext hz rfl
      rw [hq3] at hx
      obtain ⟨t2, a1, b1⟩ := k0 q.2.1 q.2.2 x hx T2.heap (locs ++ L') ls (by rw [e1]; exact hP1) (keepS hS h0 e1 hF hL') hL T2 rfl X'
      exact ⟨t2, hst t2 a1, b1⟩
    · obtain ⟨hz, hP1, hF⟩ := hq
      rcases kx q.1 q.2.1 q.2.2 (by rw [hz]; simp) with hno | ⟨hpc, ⟨pre, x1, suf, E', hE', hsp, hpass, hcov, hcat, hlk, hca, hhp⟩, kk⟩
      · have hx' : k q = some x := hx
        exact absurd (hno.symm.trans hx') (by simp)
      · have hEE : E' = E := Option.some.inj (hE'.symm.trans hz)
        subst hEE
        have hS1 := keepS (C := C) hS h0 e1 hF hL'
        have hca' : (Cond.castable E' E').before (cArgs C) (cS C) = true := va_Nw.use rfl (hC.iv.2.2.2.1 _ hca rfl)
        have hw : WX C T2.heap (locs ++ L') 1 6 (Q x) (F0 (cM C) x1.handlerPc ls [.ref a]) := by
          rw [hhp]
          exact kk a x hx T2.heap (locs ++ L') ls (by rw [e1]; exact hP1) hS1 hL
        obtain ⟨t2, a1, b1⟩ := vx_catch (rest := rest) (pc := pc) hC.ow pre x1 suf hsp (fun z hz => (hpass z hz).imp id fun ⟨h1, nm, h2, h3⟩ => ⟨h1, nm, hC.w h2, hC.iv.2.2.2.2.2.2.2.2.2.2 _ h3⟩) hcov hcat (hC.w hlk) hca' (by rw [e1]; exact hce) hcv hcl hw T2 rfl X'
        exact ⟨t2, hst.trans a1, b1⟩
end CALLX
theorem aw_lastoreN {τ : Type} {G : GG} {C : CX} {own : String} {cc : ByteArray} {nL lvl kc ks : Nat} {ret : Option FieldType} {Q : τ → State → Prop} {μ : Mem} {pc : Nat} {L : List (Option Value)} {st : List Value} {v w : Int32} {wl : Int64} {k : Mem → Option τ} (hC : CO G C own cc nL lvl kc ks ret) (hwl : wl = w.toInt64) (hd : decode cc pc = .ok (.lastore, 1)) (kk : ∀ μ', AW G C Q kc ks nL μ' (pc + 1) L st (k μ')) : AW G C Q kc ks nL μ pc L (.long wl :: .int v :: .ref (gad G 0 22) :: st) (ix v 1 (nm (upm μ 0 22 v.toNatClampNeg w) k)) :=
  aw_lastore hC hwl hd (kk _)
theorem kca1 : Cond.castable "java/lang/IllegalArgumentException" "java/lang/IllegalArgumentException" ∈ lw_tbl := List.mem_append_right _ (tb4 (List.mem_of_getElem? (i := 27) (by decide +kernel)))
theorem kca2 : Cond.castable "java/lang/UnsupportedOperationException" "java/lang/UnsupportedOperationException" ∈ lw_tbl := List.mem_append_right _ (tb4 (List.mem_of_getElem? (i := 96) (by decide +kernel)))
theorem kca3 : Cond.castable "java/lang/IndexOutOfBoundsException" "java/lang/IndexOutOfBoundsException" ∈ lw_tbl := List.mem_append_right _ (tb4 (List.mem_of_getElem? (i := 165) (by decide +kernel)))
theorem kca4 : Cond.castable "java/util/NoSuchElementException" "java/util/NoSuchElementException" ∈ lw_tbl := List.mem_append_right _ (tb4 (List.mem_of_getElem? (i := 208) (by decide +kernel)))

theorem dL_house_0 : decode cL_house 0 = .ok (.aload_n 1, 1) := by decide +kernel
theorem dL_house_1 : decode cL_house 1 = .ok (.iconst 0, 1) := by decide +kernel
theorem dL_house_2 : decode cL_house 2 = .ok (.aload_n 0, 1) := by decide +kernel
theorem dL_house_3 : decode cL_house 3 = .ok (.invokevirtual 7, 3) := by decide +kernel
theorem dL_house_6 : decode cL_house 6 = .ok (.i2l, 1) := by decide +kernel
theorem dL_house_7 : decode cL_house 7 = .ok (.lastore, 1) := by decide +kernel
theorem dL_house_8 : decode cL_house 8 = .ok (.goto 9, 3) := by decide +kernel
theorem dL_house_11 : decode cL_house 11 = .ok (.astore_n 2, 1) := by decide +kernel
theorem dL_house_12 : decode cL_house 12 = .ok (.iconst 1, 1) := by decide +kernel
theorem dL_house_13 : decode cL_house 13 = .ok (.ireturn, 1) := by decide +kernel
theorem dL_house_14 : decode cL_house 14 = .ok (.astore_n 2, 1) := by decide +kernel
theorem dL_house_15 : decode cL_house 15 = .ok (.iconst 2, 1) := by decide +kernel
theorem dL_house_16 : decode cL_house 16 = .ok (.ireturn, 1) := by decide +kernel
theorem dL_house_17 : decode cL_house 17 = .ok (.iconst 0, 1) := by decide +kernel
theorem dL_house_18 : decode cL_house 18 = .ok (.ireturn, 1) := by decide +kernel
def f_L_house (μ : Mem) : Option (Int32 × Mem) := (f_X9_house μ).bind fun (q1 : Nat × Int32 × Mem) => if q1.1 = 0 then (ix 0 1 (nm (upm q1.2.2 0 22 (Int32.toNatClampNeg 0) q1.2.1) fun (μ4 : Mem) => some (0, μ4))) else if q1.1 = 1 then (some (1, q1.2.2)) else if q1.1 = 2 then (some (2, q1.2.2)) else none
set_option maxHeartbeats 4000000 in
set_option maxRecDepth 100000 in
theorem c_L_house (G : GG) (l : Launch) (hl0 : l.stackTraces = false) (μ : Mem) : CHL G l yL_house (.codeWith yL_house cL_house 3 (some .int) [(0, 8, 11, 13), (0, 8, 14, 15)]) 15 [.ref (gad G 0 0), .ref (gad G 0 22)] μ (f_L_house μ ) := by
  refine CHL.of (own := "SaturdayKeepLaw") (L0 := [some (.ref (gad G 0 0)), some (.ref (gad G 0 22)), none]) rfl rfl rfl (Nat.le_of_ble_eq_true rfl) (fun C hl hcs ht hC hC1 => ?_)
  subst hl
  delta f_L_house
  refine aw_aload_n (pc := 0) (i := 1) hC dL_house_0 rfl rfl ?_
  refine aw_iconst (pc := 1) (v := 0) hC dL_house_1 ic0 ?_
  refine aw_aload_n (pc := 2) (i := 0) hC dL_house_2 rfl rfl ?_
  refine aw_callVX (pc := 3) (As := []) hC hcs mb_X9_house kw582 (by decide) (c_X9_house G C.2.1 hl0 μ ) (v0 (j := 0) (by decide)) rfl rfl rfl rfl (Nat.le_of_ble_eq_true rfl) dL_house_3 (fun x2 μ3 => ?_) (fun i x2 μ3 hi => ?_)
  · skip
    refine aw_eq (E' := ix 0 1 (nm (upm μ3 0 22 (Int32.toNatClampNeg 0) x2) fun (μ4 : Mem) => some (0, μ4))) rfl ?_
    refine aw_i2l (pc := 6) hC1 dL_house_6 ?_
    refine aw_lastoreN (pc := 7) (w := x2) hC1 rfl dL_house_7 (fun μ4 => ?_)
    refine aw_goto (pc := 8) (tgt := 17) hC1 dL_house_8 (by decide) ?_
    refine aw_iconst (pc := 17) (v := 0) hC1 dL_house_17 ic0 ?_
    exact aw_iret hC1 dL_house_18
  · skip
    by_cases h1 : i = 1
    · skip
      subst h1
      refine Or.inr ⟨11, ⟨[], ⟨0, 8, 11, 13⟩, [⟨0, 8, 14, 15⟩], "java/lang/IllegalArgumentException", rfl, ht, (fun z hz => absurd hz List.not_mem_nil), rfl, by decide, kw580, kca1, rfl⟩, fun q => ?_⟩
      refine aw_eq (E' := some (1, μ3)) rfl ?_
      refine aw_astore_n (pc := 11) (i := 2) hC1 dL_house_11 rfl rfl (by decide) ?_
      refine aw_iconst (pc := 12) (v := 1) hC1 dL_house_12 ic1 ?_
      exact aw_iret hC1 dL_house_13
    by_cases h2 : i = 2
    · skip
      subst h2
      refine Or.inr ⟨14, ⟨[⟨0, 8, 11, 13⟩], ⟨0, 8, 14, 15⟩, [], "java/lang/UnsupportedOperationException", rfl, ht, (by intro z hz; simp only [List.mem_cons, List.not_mem_nil, or_false] at hz; rcases hz with rfl; exact Or.inr ⟨by decide, _, kw580, by decide⟩), rfl, by decide, kw581, kca2, rfl⟩, fun q => ?_⟩
      refine aw_eq (E' := some (2, μ3)) rfl ?_
      refine aw_astore_n (pc := 14) (i := 2) hC1 dL_house_14 rfl rfl (by decide) ?_
      refine aw_iconst (pc := 15) (v := 2) hC1 dL_house_15 ic2 ?_
      exact aw_iret hC1 dL_house_16
    left
    have h0 : ¬ i = 0 := fun e => hi (by rw [e]; rfl)
    exact (if_neg h0).trans ((if_neg h1).trans ((if_neg h2).trans (rfl)))
theorem dL_law_0 : decode cL_law 0 = .ok (.aload_n 1, 1) := by decide +kernel
theorem dL_law_1 : decode cL_law 1 = .ok (.iconst 0, 1) := by decide +kernel
theorem dL_law_2 : decode cL_law 2 = .ok (.aload_n 0, 1) := by decide +kernel
theorem dL_law_3 : decode cL_law 3 = .ok (.invokevirtual 17, 3) := by decide +kernel
theorem dL_law_6 : decode cL_law 6 = .ok (.i2l, 1) := by decide +kernel
theorem dL_law_7 : decode cL_law 7 = .ok (.lastore, 1) := by decide +kernel
theorem dL_law_8 : decode cL_law 8 = .ok (.goto 6, 3) := by decide +kernel
theorem dL_law_11 : decode cL_law 11 = .ok (.astore_n 2, 1) := by decide +kernel
theorem dL_law_12 : decode cL_law 12 = .ok (.iconst 1, 1) := by decide +kernel
theorem dL_law_13 : decode cL_law 13 = .ok (.ireturn, 1) := by decide +kernel
theorem dL_law_14 : decode cL_law 14 = .ok (.iconst 0, 1) := by decide +kernel
theorem dL_law_15 : decode cL_law 15 = .ok (.ireturn, 1) := by decide +kernel
def f_L_law (μ : Mem) : Option (Int32 × Mem) := (f_X9_law μ).bind fun (q1 : Nat × Int32 × Mem) => if q1.1 = 0 then (ix 0 1 (nm (upm q1.2.2 0 22 (Int32.toNatClampNeg 0) q1.2.1) fun (μ4 : Mem) => some (0, μ4))) else if q1.1 = 1 then (some (1, q1.2.2)) else none
set_option maxHeartbeats 4000000 in
set_option maxRecDepth 100000 in
theorem c_L_law (G : GG) (l : Launch) (hl0 : l.stackTraces = false) (μ : Mem) : CHL G l yL_law (.codeWith yL_law cL_law 3 (some .int) [(0, 8, 11, 13)]) 58 [.ref (gad G 0 0), .ref (gad G 0 22)] μ (f_L_law μ ) := by
  refine CHL.of (own := "SaturdayKeepLaw") (L0 := [some (.ref (gad G 0 0)), some (.ref (gad G 0 22)), none]) rfl rfl rfl (Nat.le_of_ble_eq_true rfl) (fun C hl hcs ht hC hC1 => ?_)
  subst hl
  delta f_L_law
  refine aw_aload_n (pc := 0) (i := 1) hC dL_law_0 rfl rfl ?_
  refine aw_iconst (pc := 1) (v := 0) hC dL_law_1 ic0 ?_
  refine aw_aload_n (pc := 2) (i := 0) hC dL_law_2 rfl rfl ?_
  refine aw_callVX (pc := 3) (As := []) hC hcs mb_X9_law kw833 (by decide) (c_X9_law G C.2.1 hl0 μ ) (v0 (j := 0) (by decide)) rfl rfl rfl rfl (Nat.le_of_ble_eq_true rfl) dL_law_3 (fun x2 μ3 => ?_) (fun i x2 μ3 hi => ?_)
  · skip
    refine aw_eq (E' := ix 0 1 (nm (upm μ3 0 22 (Int32.toNatClampNeg 0) x2) fun (μ4 : Mem) => some (0, μ4))) rfl ?_
    refine aw_i2l (pc := 6) hC1 dL_law_6 ?_
    refine aw_lastoreN (pc := 7) (w := x2) hC1 rfl dL_law_7 (fun μ4 => ?_)
    refine aw_goto (pc := 8) (tgt := 14) hC1 dL_law_8 (by decide) ?_
    refine aw_iconst (pc := 14) (v := 0) hC1 dL_law_14 ic0 ?_
    exact aw_iret hC1 dL_law_15
  · skip
    by_cases h1 : i = 1
    · skip
      subst h1
      refine Or.inr ⟨11, ⟨[], ⟨0, 8, 11, 13⟩, [], "java/lang/IllegalArgumentException", rfl, ht, (fun z hz => absurd hz List.not_mem_nil), rfl, by decide, kw580, kca1, rfl⟩, fun q => ?_⟩
      refine aw_eq (E' := some (1, μ3)) rfl ?_
      refine aw_astore_n (pc := 11) (i := 2) hC1 dL_law_11 rfl rfl (by decide) ?_
      refine aw_iconst (pc := 12) (v := 1) hC1 dL_law_12 ic1 ?_
      exact aw_iret hC1 dL_law_13
    left
    have h0 : ¬ i = 0 := fun e => hi (by rw [e]; rfl)
    exact (if_neg h0).trans ((if_neg h1).trans (rfl))
theorem dL_guest_0 : decode cL_guest 0 = .ok (.aload_n 3, 1) := by decide +kernel
theorem dL_guest_1 : decode cL_guest 1 = .ok (.iconst 0, 1) := by decide +kernel
theorem dL_guest_2 : decode cL_guest 2 = .ok (.aload_n 0, 1) := by decide +kernel
theorem dL_guest_3 : decode cL_guest 3 = .ok (.iload_n 1, 1) := by decide +kernel
theorem dL_guest_4 : decode cL_guest 4 = .ok (.iload_n 2, 1) := by decide +kernel
theorem dL_guest_5 : decode cL_guest 5 = .ok (.invokevirtual 20, 3) := by decide +kernel
theorem dL_guest_8 : decode cL_guest 8 = .ok (.i2l, 1) := by decide +kernel
theorem dL_guest_9 : decode cL_guest 9 = .ok (.lastore, 1) := by decide +kernel
theorem dL_guest_10 : decode cL_guest 10 = .ok (.goto 11, 3) := by decide +kernel
theorem dL_guest_13 : decode cL_guest 13 = .ok (.astore 4, 2) := by decide +kernel
theorem dL_guest_15 : decode cL_guest 15 = .ok (.iconst 1, 1) := by decide +kernel
theorem dL_guest_16 : decode cL_guest 16 = .ok (.ireturn, 1) := by decide +kernel
theorem dL_guest_17 : decode cL_guest 17 = .ok (.astore 4, 2) := by decide +kernel
theorem dL_guest_19 : decode cL_guest 19 = .ok (.iconst 2, 1) := by decide +kernel
theorem dL_guest_20 : decode cL_guest 20 = .ok (.ireturn, 1) := by decide +kernel
theorem dL_guest_21 : decode cL_guest 21 = .ok (.iconst 0, 1) := by decide +kernel
theorem dL_guest_22 : decode cL_guest 22 = .ok (.ireturn, 1) := by decide +kernel
def f_L_guest (μ : Mem) (a2 : Int32) (a3 : Int32) : Option (Int32 × Mem) := (f_X9_guest μ a2 a3).bind fun (q1 : Nat × Int32 × Mem) => if q1.1 = 0 then (ix 0 1 (nm (upm q1.2.2 0 22 (Int32.toNatClampNeg 0) q1.2.1) fun (μ4 : Mem) => some (0, μ4))) else if q1.1 = 3 then (some (1, q1.2.2)) else if q1.1 = 4 then (some (2, q1.2.2)) else none
set_option maxHeartbeats 4000000 in
set_option maxRecDepth 100000 in
theorem c_L_guest (G : GG) (l : Launch) (hl0 : l.stackTraces = false) (μ : Mem) (a2 : Int32) (a3 : Int32) : CHL G l yL_guest (.codeWith yL_guest cL_guest 5 (some .int) [(0, 10, 13, 24), (0, 10, 17, 26)]) 6 [.ref (gad G 0 0), .int a2, .int a3, .ref (gad G 0 22)] μ (f_L_guest μ a2 a3) := by
  refine CHL.of (own := "SaturdayKeepLaw") (L0 := [some (.ref (gad G 0 0)), some (.int a2), some (.int a3), some (.ref (gad G 0 22)), none]) rfl rfl rfl (Nat.le_of_ble_eq_true rfl) (fun C hl hcs ht hC hC1 => ?_)
  subst hl
  delta f_L_guest
  refine aw_aload_n (pc := 0) (i := 3) hC dL_guest_0 rfl rfl ?_
  refine aw_iconst (pc := 1) (v := 0) hC dL_guest_1 ic0 ?_
  refine aw_aload_n (pc := 2) (i := 0) hC dL_guest_2 rfl rfl ?_
  refine aw_iload_n (pc := 3) (i := 1) hC dL_guest_3 rfl rfl ?_
  refine aw_iload_n (pc := 4) (i := 2) hC dL_guest_4 rfl rfl ?_
  refine aw_callVX (pc := 5) (As := [.int a2, .int a3]) hC hcs mb_X9_guest kw875 (by decide) (c_X9_guest G C.2.1 hl0 μ a2 a3) (v0 (j := 0) (by decide)) rfl rfl rfl rfl (Nat.le_of_ble_eq_true rfl) dL_guest_5 (fun x2 μ3 => ?_) (fun i x2 μ3 hi => ?_)
  · skip
    refine aw_eq (E' := ix 0 1 (nm (upm μ3 0 22 (Int32.toNatClampNeg 0) x2) fun (μ4 : Mem) => some (0, μ4))) rfl ?_
    refine aw_i2l (pc := 8) hC1 dL_guest_8 ?_
    refine aw_lastoreN (pc := 9) (w := x2) hC1 rfl dL_guest_9 (fun μ4 => ?_)
    refine aw_goto (pc := 10) (tgt := 21) hC1 dL_guest_10 (by decide) ?_
    refine aw_iconst (pc := 21) (v := 0) hC1 dL_guest_21 ic0 ?_
    exact aw_iret hC1 dL_guest_22
  · skip
    by_cases h3 : i = 3
    · skip
      subst h3
      refine Or.inr ⟨13, ⟨[], ⟨0, 10, 13, 24⟩, [⟨0, 10, 17, 26⟩], "java/lang/IndexOutOfBoundsException", rfl, ht, (fun z hz => absurd hz List.not_mem_nil), rfl, by decide, kw873, kca3, rfl⟩, fun q => ?_⟩
      refine aw_eq (E' := some (1, μ3)) rfl ?_
      refine aw_astore (pc := 13) hC1 dL_guest_13 rfl (by decide) ?_
      refine aw_iconst (pc := 15) (v := 1) hC1 dL_guest_15 ic1 ?_
      exact aw_iret hC1 dL_guest_16
    by_cases h4 : i = 4
    · skip
      subst h4
      refine Or.inr ⟨17, ⟨[⟨0, 10, 13, 24⟩], ⟨0, 10, 17, 26⟩, [], "java/util/NoSuchElementException", rfl, ht, (by intro z hz; simp only [List.mem_cons, List.not_mem_nil, or_false] at hz; rcases hz with rfl; exact Or.inr ⟨by decide, _, kw873, by decide⟩), rfl, by decide, kw874, kca4, rfl⟩, fun q => ?_⟩
      refine aw_eq (E' := some (2, μ3)) rfl ?_
      refine aw_astore (pc := 17) hC1 dL_guest_17 rfl (by decide) ?_
      refine aw_iconst (pc := 19) (v := 2) hC1 dL_guest_19 ic2 ?_
      exact aw_iret hC1 dL_guest_20
    left
    have h0 : ¬ i = 0 := fun e => hi (by rw [e]; rfl)
    exact (if_neg h0).trans ((if_neg h3).trans ((if_neg h4).trans (rfl)))
theorem dL_room_0 : decode cL_room 0 = .ok (.aload_n 3, 1) := by decide +kernel
theorem dL_room_1 : decode cL_room 1 = .ok (.iconst 0, 1) := by decide +kernel
theorem dL_room_2 : decode cL_room 2 = .ok (.aload_n 0, 1) := by decide +kernel
theorem dL_room_3 : decode cL_room 3 = .ok (.iload_n 1, 1) := by decide +kernel
theorem dL_room_4 : decode cL_room 4 = .ok (.iload_n 2, 1) := by decide +kernel
theorem dL_room_5 : decode cL_room 5 = .ok (.invokevirtual 28, 3) := by decide +kernel
theorem dL_room_8 : decode cL_room 8 = .ok (.i2l, 1) := by decide +kernel
theorem dL_room_9 : decode cL_room 9 = .ok (.lastore, 1) := by decide +kernel
theorem dL_room_10 : decode cL_room 10 = .ok (.goto 11, 3) := by decide +kernel
theorem dL_room_13 : decode cL_room 13 = .ok (.astore 4, 2) := by decide +kernel
theorem dL_room_15 : decode cL_room 15 = .ok (.iconst 1, 1) := by decide +kernel
theorem dL_room_16 : decode cL_room 16 = .ok (.ireturn, 1) := by decide +kernel
theorem dL_room_17 : decode cL_room 17 = .ok (.astore 4, 2) := by decide +kernel
theorem dL_room_19 : decode cL_room 19 = .ok (.iconst 2, 1) := by decide +kernel
theorem dL_room_20 : decode cL_room 20 = .ok (.ireturn, 1) := by decide +kernel
theorem dL_room_21 : decode cL_room 21 = .ok (.iconst 0, 1) := by decide +kernel
theorem dL_room_22 : decode cL_room 22 = .ok (.ireturn, 1) := by decide +kernel
def f_L_room (μ : Mem) (a2 : Int32) (a3 : Int32) : Option (Int32 × Mem) := (f_X9_room μ a2 a3).bind fun (q1 : Nat × Int32 × Mem) => if q1.1 = 0 then (ix 0 1 (nm (upm q1.2.2 0 22 (Int32.toNatClampNeg 0) q1.2.1) fun (μ4 : Mem) => some (0, μ4))) else if q1.1 = 3 then (some (1, q1.2.2)) else if q1.1 = 4 then (some (2, q1.2.2)) else none
set_option maxHeartbeats 4000000 in
set_option maxRecDepth 100000 in
theorem c_L_room (G : GG) (l : Launch) (hl0 : l.stackTraces = false) (μ : Mem) (a2 : Int32) (a3 : Int32) : CHL G l yL_room (.codeWith yL_room cL_room 5 (some .int) [(0, 10, 13, 24), (0, 10, 17, 26)]) 6 [.ref (gad G 0 0), .int a2, .int a3, .ref (gad G 0 22)] μ (f_L_room μ a2 a3) := by
  refine CHL.of (own := "SaturdayKeepLaw") (L0 := [some (.ref (gad G 0 0)), some (.int a2), some (.int a3), some (.ref (gad G 0 22)), none]) rfl rfl rfl (Nat.le_of_ble_eq_true rfl) (fun C hl hcs ht hC hC1 => ?_)
  subst hl
  delta f_L_room
  refine aw_aload_n (pc := 0) (i := 3) hC dL_room_0 rfl rfl ?_
  refine aw_iconst (pc := 1) (v := 0) hC dL_room_1 ic0 ?_
  refine aw_aload_n (pc := 2) (i := 0) hC dL_room_2 rfl rfl ?_
  refine aw_iload_n (pc := 3) (i := 1) hC dL_room_3 rfl rfl ?_
  refine aw_iload_n (pc := 4) (i := 2) hC dL_room_4 rfl rfl ?_
  refine aw_callVX (pc := 5) (As := [.int a2, .int a3]) hC hcs mb_X9_room kw945 (by decide) (c_X9_room G C.2.1 hl0 μ a2 a3) (v0 (j := 0) (by decide)) rfl rfl rfl rfl (Nat.le_of_ble_eq_true rfl) dL_room_5 (fun x2 μ3 => ?_) (fun i x2 μ3 hi => ?_)
  · skip
    refine aw_eq (E' := ix 0 1 (nm (upm μ3 0 22 (Int32.toNatClampNeg 0) x2) fun (μ4 : Mem) => some (0, μ4))) rfl ?_
    refine aw_i2l (pc := 8) hC1 dL_room_8 ?_
    refine aw_lastoreN (pc := 9) (w := x2) hC1 rfl dL_room_9 (fun μ4 => ?_)
    refine aw_goto (pc := 10) (tgt := 21) hC1 dL_room_10 (by decide) ?_
    refine aw_iconst (pc := 21) (v := 0) hC1 dL_room_21 ic0 ?_
    exact aw_iret hC1 dL_room_22
  · skip
    by_cases h3 : i = 3
    · skip
      subst h3
      refine Or.inr ⟨13, ⟨[], ⟨0, 10, 13, 24⟩, [⟨0, 10, 17, 26⟩], "java/lang/IndexOutOfBoundsException", rfl, ht, (fun z hz => absurd hz List.not_mem_nil), rfl, by decide, kw873, kca3, rfl⟩, fun q => ?_⟩
      refine aw_eq (E' := some (1, μ3)) rfl ?_
      refine aw_astore (pc := 13) hC1 dL_room_13 rfl (by decide) ?_
      refine aw_iconst (pc := 15) (v := 1) hC1 dL_room_15 ic1 ?_
      exact aw_iret hC1 dL_room_16
    by_cases h4 : i = 4
    · skip
      subst h4
      refine Or.inr ⟨17, ⟨[⟨0, 10, 13, 24⟩], ⟨0, 10, 17, 26⟩, [], "java/util/NoSuchElementException", rfl, ht, (by intro z hz; simp only [List.mem_cons, List.not_mem_nil, or_false] at hz; rcases hz with rfl; exact Or.inr ⟨by decide, _, kw873, by decide⟩), rfl, by decide, kw874, kca4, rfl⟩, fun q => ?_⟩
      refine aw_eq (E' := some (2, μ3)) rfl ?_
      refine aw_astore (pc := 17) hC1 dL_room_17 rfl (by decide) ?_
      refine aw_iconst (pc := 19) (v := 2) hC1 dL_room_19 ic2 ?_
      exact aw_iret hC1 dL_room_20
    left
    have h0 : ¬ i = 0 := fun e => hi (by rw [e]; rfl)
    exact (if_neg h0).trans ((if_neg h3).trans ((if_neg h4).trans (rfl)))
theorem dL_calendar_0 : decode cL_calendar 0 = .ok (.aload_n 3, 1) := by decide +kernel
theorem dL_calendar_1 : decode cL_calendar 1 = .ok (.iconst 0, 1) := by decide +kernel
theorem dL_calendar_2 : decode cL_calendar 2 = .ok (.aload_n 0, 1) := by decide +kernel
theorem dL_calendar_3 : decode cL_calendar 3 = .ok (.iload_n 1, 1) := by decide +kernel
theorem dL_calendar_4 : decode cL_calendar 4 = .ok (.iload_n 2, 1) := by decide +kernel
theorem dL_calendar_5 : decode cL_calendar 5 = .ok (.invokevirtual 31, 3) := by decide +kernel
theorem dL_calendar_8 : decode cL_calendar 8 = .ok (.i2l, 1) := by decide +kernel
theorem dL_calendar_9 : decode cL_calendar 9 = .ok (.lastore, 1) := by decide +kernel
theorem dL_calendar_10 : decode cL_calendar 10 = .ok (.goto 7, 3) := by decide +kernel
theorem dL_calendar_13 : decode cL_calendar 13 = .ok (.astore 4, 2) := by decide +kernel
theorem dL_calendar_15 : decode cL_calendar 15 = .ok (.iconst 1, 1) := by decide +kernel
theorem dL_calendar_16 : decode cL_calendar 16 = .ok (.ireturn, 1) := by decide +kernel
theorem dL_calendar_17 : decode cL_calendar 17 = .ok (.iconst 0, 1) := by decide +kernel
theorem dL_calendar_18 : decode cL_calendar 18 = .ok (.ireturn, 1) := by decide +kernel
def f_L_calendar (μ : Mem) (a2 : Int32) (a3 : Int32) : Option (Int32 × Mem) := (f_X9_calendar μ a2 a3).bind fun (q1 : Nat × Int32 × Mem) => if q1.1 = 0 then (ix 0 1 (nm (upm q1.2.2 0 22 (Int32.toNatClampNeg 0) q1.2.1) fun (μ4 : Mem) => some (0, μ4))) else if q1.1 = 3 then (some (1, q1.2.2)) else none
set_option maxHeartbeats 4000000 in
set_option maxRecDepth 100000 in
theorem c_L_calendar (G : GG) (l : Launch) (hl0 : l.stackTraces = false) (μ : Mem) (a2 : Int32) (a3 : Int32) : CHL G l yL_calendar (.codeWith yL_calendar cL_calendar 5 (some .int) [(0, 10, 13, 24)]) 6 [.ref (gad G 0 0), .int a2, .int a3, .ref (gad G 0 22)] μ (f_L_calendar μ a2 a3) := by
  refine CHL.of (own := "SaturdayKeepLaw") (L0 := [some (.ref (gad G 0 0)), some (.int a2), some (.int a3), some (.ref (gad G 0 22)), none]) rfl rfl rfl (Nat.le_of_ble_eq_true rfl) (fun C hl hcs ht hC hC1 => ?_)
  subst hl
  delta f_L_calendar
  refine aw_aload_n (pc := 0) (i := 3) hC dL_calendar_0 rfl rfl ?_
  refine aw_iconst (pc := 1) (v := 0) hC dL_calendar_1 ic0 ?_
  refine aw_aload_n (pc := 2) (i := 0) hC dL_calendar_2 rfl rfl ?_
  refine aw_iload_n (pc := 3) (i := 1) hC dL_calendar_3 rfl rfl ?_
  refine aw_iload_n (pc := 4) (i := 2) hC dL_calendar_4 rfl rfl ?_
  refine aw_callVX (pc := 5) (As := [.int a2, .int a3]) hC hcs mb_X9_calendar kw955 (by decide) (c_X9_calendar G C.2.1 hl0 μ a2 a3) (v0 (j := 0) (by decide)) rfl rfl rfl rfl (Nat.le_of_ble_eq_true rfl) dL_calendar_5 (fun x2 μ3 => ?_) (fun i x2 μ3 hi => ?_)
  · skip
    refine aw_eq (E' := ix 0 1 (nm (upm μ3 0 22 (Int32.toNatClampNeg 0) x2) fun (μ4 : Mem) => some (0, μ4))) rfl ?_
    refine aw_i2l (pc := 8) hC1 dL_calendar_8 ?_
    refine aw_lastoreN (pc := 9) (w := x2) hC1 rfl dL_calendar_9 (fun μ4 => ?_)
    refine aw_goto (pc := 10) (tgt := 17) hC1 dL_calendar_10 (by decide) ?_
    refine aw_iconst (pc := 17) (v := 0) hC1 dL_calendar_17 ic0 ?_
    exact aw_iret hC1 dL_calendar_18
  · skip
    by_cases h3 : i = 3
    · skip
      subst h3
      refine Or.inr ⟨13, ⟨[], ⟨0, 10, 13, 24⟩, [], "java/lang/IndexOutOfBoundsException", rfl, ht, (fun z hz => absurd hz List.not_mem_nil), rfl, by decide, kw873, kca3, rfl⟩, fun q => ?_⟩
      refine aw_eq (E' := some (1, μ3)) rfl ?_
      refine aw_astore (pc := 13) hC1 dL_calendar_13 rfl (by decide) ?_
      refine aw_iconst (pc := 15) (v := 1) hC1 dL_calendar_15 ic1 ?_
      exact aw_iret hC1 dL_calendar_16
    left
    have h0 : ¬ i = 0 := fun e => hi (by rw [e]; rfl)
    exact (if_neg h0).trans ((if_neg h3).trans (rfl))
theorem dL_saturday_0 : decode cL_saturday 0 = .ok (.aload_n 3, 1) := by decide +kernel
theorem dL_saturday_1 : decode cL_saturday 1 = .ok (.iconst 0, 1) := by decide +kernel
theorem dL_saturday_2 : decode cL_saturday 2 = .ok (.aload_n 0, 1) := by decide +kernel
theorem dL_saturday_3 : decode cL_saturday 3 = .ok (.iload_n 1, 1) := by decide +kernel
theorem dL_saturday_4 : decode cL_saturday 4 = .ok (.iload_n 2, 1) := by decide +kernel
theorem dL_saturday_5 : decode cL_saturday 5 = .ok (.invokevirtual 35, 3) := by decide +kernel
theorem dL_saturday_8 : decode cL_saturday 8 = .ok (.ifCond .eq 7, 3) := by decide +kernel
theorem dL_saturday_11 : decode cL_saturday 11 = .ok (.lconst 1, 1) := by decide +kernel
theorem dL_saturday_12 : decode cL_saturday 12 = .ok (.goto 4, 3) := by decide +kernel
theorem dL_saturday_15 : decode cL_saturday 15 = .ok (.lconst 0, 1) := by decide +kernel
theorem dL_saturday_16 : decode cL_saturday 16 = .ok (.lastore, 1) := by decide +kernel
theorem dL_saturday_17 : decode cL_saturday 17 = .ok (.goto 11, 3) := by decide +kernel
theorem dL_saturday_20 : decode cL_saturday 20 = .ok (.astore 4, 2) := by decide +kernel
theorem dL_saturday_22 : decode cL_saturday 22 = .ok (.iconst 1, 1) := by decide +kernel
theorem dL_saturday_23 : decode cL_saturday 23 = .ok (.ireturn, 1) := by decide +kernel
theorem dL_saturday_24 : decode cL_saturday 24 = .ok (.astore 4, 2) := by decide +kernel
theorem dL_saturday_26 : decode cL_saturday 26 = .ok (.iconst 2, 1) := by decide +kernel
theorem dL_saturday_27 : decode cL_saturday 27 = .ok (.ireturn, 1) := by decide +kernel
theorem dL_saturday_28 : decode cL_saturday 28 = .ok (.iconst 0, 1) := by decide +kernel
theorem dL_saturday_29 : decode cL_saturday 29 = .ok (.ireturn, 1) := by decide +kernel
def f_L_saturday (μ : Mem) (a2 : Int32) (a3 : Int32) : Option (Int32 × Mem) := (f_X9_saturday μ a2 a3).bind fun (q1 : Nat × Int32 × Mem) => if q1.1 = 0 then (if q1.2.1 = 0 then (ix 0 1 (nm (upm q1.2.2 0 22 (Int32.toNatClampNeg 0) 0) fun (μ4 : Mem) => some (0, μ4))) else (ix 0 1 (nm (upm q1.2.2 0 22 (Int32.toNatClampNeg 0) 1) fun (μ5 : Mem) => some (0, μ5)))) else if q1.1 = 3 then (some (1, q1.2.2)) else if q1.1 = 1 then (some (2, q1.2.2)) else none
set_option maxHeartbeats 4000000 in
set_option maxRecDepth 100000 in
theorem c_L_saturday (G : GG) (l : Launch) (hl0 : l.stackTraces = false) (μ : Mem) (a2 : Int32) (a3 : Int32) : CHL G l yL_saturday (.codeWith yL_saturday cL_saturday 5 (some .int) [(0, 17, 20, 24), (0, 17, 24, 13)]) 6 [.ref (gad G 0 0), .int a2, .int a3, .ref (gad G 0 22)] μ (f_L_saturday μ a2 a3) := by
  refine CHL.of (own := "SaturdayKeepLaw") (L0 := [some (.ref (gad G 0 0)), some (.int a2), some (.int a3), some (.ref (gad G 0 22)), none]) rfl rfl rfl (Nat.le_of_ble_eq_true rfl) (fun C hl hcs ht hC hC1 => ?_)
  subst hl
  delta f_L_saturday
  refine aw_aload_n (pc := 0) (i := 3) hC dL_saturday_0 rfl rfl ?_
  refine aw_iconst (pc := 1) (v := 0) hC dL_saturday_1 ic0 ?_
  refine aw_aload_n (pc := 2) (i := 0) hC dL_saturday_2 rfl rfl ?_
  refine aw_iload_n (pc := 3) (i := 1) hC dL_saturday_3 rfl rfl ?_
  refine aw_iload_n (pc := 4) (i := 2) hC dL_saturday_4 rfl rfl ?_
  refine aw_callVX (pc := 5) (As := [.int a2, .int a3]) hC hcs mb_X9_saturday kw971 (by decide) (c_X9_saturday G C.2.1 hl0 μ a2 a3) (v0 (j := 0) (by decide)) rfl rfl rfl rfl (Nat.le_of_ble_eq_true rfl) dL_saturday_5 (fun x2 μ3 => ?_) (fun i x2 μ3 hi => ?_)
  · skip
    refine aw_eq (E' := if x2 = 0 then (ix 0 1 (nm (upm μ3 0 22 (Int32.toNatClampNeg 0) 0) fun (μ4 : Mem) => some (0, μ4))) else (ix 0 1 (nm (upm μ3 0 22 (Int32.toNatClampNeg 0) 1) fun (μ5 : Mem) => some (0, μ5)))) rfl ?_
    refine aw_if_eq (pc := 8) (tgt := 15) hC1 dL_saturday_8 (by decide) (fun _ => ?_) (fun _ => ?_)
    · skip
      refine aw_lconst (pc := 15) (v := 0) hC1 dL_saturday_15 lc0 ?_
      refine aw_lastoreN (pc := 16) (w := 0) hC1 (by decide) dL_saturday_16 (fun μ4 => ?_)
      refine aw_goto (pc := 17) (tgt := 28) hC1 dL_saturday_17 (by decide) ?_
      refine aw_iconst (pc := 28) (v := 0) hC1 dL_saturday_28 ic0 ?_
      exact aw_iret hC1 dL_saturday_29
    · skip
      refine aw_lconst (pc := 11) (v := 1) hC1 dL_saturday_11 lc1 ?_
      refine aw_goto (pc := 12) (tgt := 16) hC1 dL_saturday_12 (by decide) ?_
      refine aw_lastoreN (pc := 16) (w := 1) hC1 (by decide) dL_saturday_16 (fun μ5 => ?_)
      refine aw_goto (pc := 17) (tgt := 28) hC1 dL_saturday_17 (by decide) ?_
      refine aw_iconst (pc := 28) (v := 0) hC1 dL_saturday_28 ic0 ?_
      exact aw_iret hC1 dL_saturday_29
  · skip
    by_cases h3 : i = 3
    · skip
      subst h3
      refine Or.inr ⟨20, ⟨[], ⟨0, 17, 20, 24⟩, [⟨0, 17, 24, 13⟩], "java/lang/IndexOutOfBoundsException", rfl, ht, (fun z hz => absurd hz List.not_mem_nil), rfl, by decide, kw873, kca3, rfl⟩, fun q => ?_⟩
      refine aw_eq (E' := some (1, μ3)) rfl ?_
      refine aw_astore (pc := 20) hC1 dL_saturday_20 rfl (by decide) ?_
      refine aw_iconst (pc := 22) (v := 1) hC1 dL_saturday_22 ic1 ?_
      exact aw_iret hC1 dL_saturday_23
    by_cases h1 : i = 1
    · skip
      subst h1
      refine Or.inr ⟨24, ⟨[⟨0, 17, 20, 24⟩], ⟨0, 17, 24, 13⟩, [], "java/lang/IllegalArgumentException", rfl, ht, (by intro z hz; simp only [List.mem_cons, List.not_mem_nil, or_false] at hz; rcases hz with rfl; exact Or.inr ⟨by decide, _, kw873, by decide⟩), rfl, by decide, kw580, kca1, rfl⟩, fun q => ?_⟩
      refine aw_eq (E' := some (2, μ3)) rfl ?_
      refine aw_astore (pc := 24) hC1 dL_saturday_24 rfl (by decide) ?_
      refine aw_iconst (pc := 26) (v := 2) hC1 dL_saturday_26 ic2 ?_
      exact aw_iret hC1 dL_saturday_27
    left
    have h0 : ¬ i = 0 := fun e => hi (by rw [e]; rfl)
    exact (if_neg h0).trans ((if_neg h3).trans ((if_neg h1).trans (rfl)))
theorem dL_go_0 : decode cL_go 0 = .ok (.aload_n 3, 1) := by decide +kernel
theorem dL_go_1 : decode cL_go 1 = .ok (.iconst 0, 1) := by decide +kernel
theorem dL_go_2 : decode cL_go 2 = .ok (.aload_n 0, 1) := by decide +kernel
theorem dL_go_3 : decode cL_go 3 = .ok (.iload_n 1, 1) := by decide +kernel
theorem dL_go_4 : decode cL_go 4 = .ok (.iload_n 2, 1) := by decide +kernel
theorem dL_go_5 : decode cL_go 5 = .ok (.invokevirtual 39, 3) := by decide +kernel
theorem dL_go_8 : decode cL_go 8 = .ok (.i2l, 1) := by decide +kernel
theorem dL_go_9 : decode cL_go 9 = .ok (.lastore, 1) := by decide +kernel
theorem dL_go_10 : decode cL_go 10 = .ok (.goto 7, 3) := by decide +kernel
theorem dL_go_13 : decode cL_go 13 = .ok (.astore 4, 2) := by decide +kernel
theorem dL_go_15 : decode cL_go 15 = .ok (.iconst 1, 1) := by decide +kernel
theorem dL_go_16 : decode cL_go 16 = .ok (.ireturn, 1) := by decide +kernel
theorem dL_go_17 : decode cL_go 17 = .ok (.iconst 0, 1) := by decide +kernel
theorem dL_go_18 : decode cL_go 18 = .ok (.ireturn, 1) := by decide +kernel
def f_L_go (μ : Mem) (a2 : Int32) (a3 : Int32) : Option (Int32 × Mem) := (f_X9_go μ a2 a3).bind fun (q1 : Nat × Int32 × Mem) => if q1.1 = 0 then (ix 0 1 (nm (upm q1.2.2 0 22 (Int32.toNatClampNeg 0) q1.2.1) fun (μ4 : Mem) => some (0, μ4))) else if q1.1 = 3 then (some (1, q1.2.2)) else none
set_option maxHeartbeats 4000000 in
set_option maxRecDepth 100000 in
theorem c_L_go (G : GG) (l : Launch) (hl0 : l.stackTraces = false) (μ : Mem) (a2 : Int32) (a3 : Int32) : CHL G l yL_go (.codeWith yL_go cL_go 5 (some .int) [(0, 10, 13, 24)]) 6 [.ref (gad G 0 0), .int a2, .int a3, .ref (gad G 0 22)] μ (f_L_go μ a2 a3) := by
  refine CHL.of (own := "SaturdayKeepLaw") (L0 := [some (.ref (gad G 0 0)), some (.int a2), some (.int a3), some (.ref (gad G 0 22)), none]) rfl rfl rfl (Nat.le_of_ble_eq_true rfl) (fun C hl hcs ht hC hC1 => ?_)
  subst hl
  delta f_L_go
  refine aw_aload_n (pc := 0) (i := 3) hC dL_go_0 rfl rfl ?_
  refine aw_iconst (pc := 1) (v := 0) hC dL_go_1 ic0 ?_
  refine aw_aload_n (pc := 2) (i := 0) hC dL_go_2 rfl rfl ?_
  refine aw_iload_n (pc := 3) (i := 1) hC dL_go_3 rfl rfl ?_
  refine aw_iload_n (pc := 4) (i := 2) hC dL_go_4 rfl rfl ?_
  refine aw_callVX (pc := 5) (As := [.int a2, .int a3]) hC hcs mb_X9_go kw980 (by decide) (c_X9_go G C.2.1 hl0 μ a2 a3) (v0 (j := 0) (by decide)) rfl rfl rfl rfl (Nat.le_of_ble_eq_true rfl) dL_go_5 (fun x2 μ3 => ?_) (fun i x2 μ3 hi => ?_)
  · skip
    refine aw_eq (E' := ix 0 1 (nm (upm μ3 0 22 (Int32.toNatClampNeg 0) x2) fun (μ4 : Mem) => some (0, μ4))) rfl ?_
    refine aw_i2l (pc := 8) hC1 dL_go_8 ?_
    refine aw_lastoreN (pc := 9) (w := x2) hC1 rfl dL_go_9 (fun μ4 => ?_)
    refine aw_goto (pc := 10) (tgt := 17) hC1 dL_go_10 (by decide) ?_
    refine aw_iconst (pc := 17) (v := 0) hC1 dL_go_17 ic0 ?_
    exact aw_iret hC1 dL_go_18
  · skip
    by_cases h3 : i = 3
    · skip
      subst h3
      refine Or.inr ⟨13, ⟨[], ⟨0, 10, 13, 24⟩, [], "java/lang/IndexOutOfBoundsException", rfl, ht, (fun z hz => absurd hz List.not_mem_nil), rfl, by decide, kw873, kca3, rfl⟩, fun q => ?_⟩
      refine aw_eq (E' := some (1, μ3)) rfl ?_
      refine aw_astore (pc := 13) hC1 dL_go_13 rfl (by decide) ?_
      refine aw_iconst (pc := 15) (v := 1) hC1 dL_go_15 ic1 ?_
      exact aw_iret hC1 dL_go_16
    left
    have h0 : ¬ i = 0 := fun e => hi (by rw [e]; rfl)
    exact (if_neg h0).trans ((if_neg h3).trans (rfl))
theorem dL_come_0 : decode cL_come 0 = .ok (.aload_n 3, 1) := by decide +kernel
theorem dL_come_1 : decode cL_come 1 = .ok (.iconst 0, 1) := by decide +kernel
theorem dL_come_2 : decode cL_come 2 = .ok (.aload_n 0, 1) := by decide +kernel
theorem dL_come_3 : decode cL_come 3 = .ok (.iload_n 1, 1) := by decide +kernel
theorem dL_come_4 : decode cL_come 4 = .ok (.iload_n 2, 1) := by decide +kernel
theorem dL_come_5 : decode cL_come 5 = .ok (.invokevirtual 42, 3) := by decide +kernel
theorem dL_come_8 : decode cL_come 8 = .ok (.ifCond .eq 7, 3) := by decide +kernel
theorem dL_come_11 : decode cL_come 11 = .ok (.lconst 1, 1) := by decide +kernel
theorem dL_come_12 : decode cL_come 12 = .ok (.goto 4, 3) := by decide +kernel
theorem dL_come_15 : decode cL_come 15 = .ok (.lconst 0, 1) := by decide +kernel
theorem dL_come_16 : decode cL_come 16 = .ok (.lastore, 1) := by decide +kernel
theorem dL_come_17 : decode cL_come 17 = .ok (.goto 7, 3) := by decide +kernel
theorem dL_come_20 : decode cL_come 20 = .ok (.astore 4, 2) := by decide +kernel
theorem dL_come_22 : decode cL_come 22 = .ok (.iconst 1, 1) := by decide +kernel
theorem dL_come_23 : decode cL_come 23 = .ok (.ireturn, 1) := by decide +kernel
theorem dL_come_24 : decode cL_come 24 = .ok (.iconst 0, 1) := by decide +kernel
theorem dL_come_25 : decode cL_come 25 = .ok (.ireturn, 1) := by decide +kernel
def f_L_come (μ : Mem) (a2 : Int32) (a3 : Int32) : Option (Int32 × Mem) := (f_X9_come μ a2 a3).bind fun (q1 : Nat × Int32 × Mem) => if q1.1 = 0 then (if q1.2.1 = 0 then (ix 0 1 (nm (upm q1.2.2 0 22 (Int32.toNatClampNeg 0) 0) fun (μ4 : Mem) => some (0, μ4))) else (ix 0 1 (nm (upm q1.2.2 0 22 (Int32.toNatClampNeg 0) 1) fun (μ5 : Mem) => some (0, μ5)))) else if q1.1 = 3 then (some (1, q1.2.2)) else none
set_option maxHeartbeats 4000000 in
set_option maxRecDepth 100000 in
theorem c_L_come (G : GG) (l : Launch) (hl0 : l.stackTraces = false) (μ : Mem) (a2 : Int32) (a3 : Int32) : CHL G l yL_come (.codeWith yL_come cL_come 5 (some .int) [(0, 17, 20, 24)]) 6 [.ref (gad G 0 0), .int a2, .int a3, .ref (gad G 0 22)] μ (f_L_come μ a2 a3) := by
  refine CHL.of (own := "SaturdayKeepLaw") (L0 := [some (.ref (gad G 0 0)), some (.int a2), some (.int a3), some (.ref (gad G 0 22)), none]) rfl rfl rfl (Nat.le_of_ble_eq_true rfl) (fun C hl hcs ht hC hC1 => ?_)
  subst hl
  delta f_L_come
  refine aw_aload_n (pc := 0) (i := 3) hC dL_come_0 rfl rfl ?_
  refine aw_iconst (pc := 1) (v := 0) hC dL_come_1 ic0 ?_
  refine aw_aload_n (pc := 2) (i := 0) hC dL_come_2 rfl rfl ?_
  refine aw_iload_n (pc := 3) (i := 1) hC dL_come_3 rfl rfl ?_
  refine aw_iload_n (pc := 4) (i := 2) hC dL_come_4 rfl rfl ?_
  refine aw_callVX (pc := 5) (As := [.int a2, .int a3]) hC hcs mb_X9_come kw997 (by decide) (c_X9_come G C.2.1 hl0 μ a2 a3) (v0 (j := 0) (by decide)) rfl rfl rfl rfl (Nat.le_of_ble_eq_true rfl) dL_come_5 (fun x2 μ3 => ?_) (fun i x2 μ3 hi => ?_)
  · skip
    refine aw_eq (E' := if x2 = 0 then (ix 0 1 (nm (upm μ3 0 22 (Int32.toNatClampNeg 0) 0) fun (μ4 : Mem) => some (0, μ4))) else (ix 0 1 (nm (upm μ3 0 22 (Int32.toNatClampNeg 0) 1) fun (μ5 : Mem) => some (0, μ5)))) rfl ?_
    refine aw_if_eq (pc := 8) (tgt := 15) hC1 dL_come_8 (by decide) (fun _ => ?_) (fun _ => ?_)
    · skip
      refine aw_lconst (pc := 15) (v := 0) hC1 dL_come_15 lc0 ?_
      refine aw_lastoreN (pc := 16) (w := 0) hC1 (by decide) dL_come_16 (fun μ4 => ?_)
      refine aw_goto (pc := 17) (tgt := 24) hC1 dL_come_17 (by decide) ?_
      refine aw_iconst (pc := 24) (v := 0) hC1 dL_come_24 ic0 ?_
      exact aw_iret hC1 dL_come_25
    · skip
      refine aw_lconst (pc := 11) (v := 1) hC1 dL_come_11 lc1 ?_
      refine aw_goto (pc := 12) (tgt := 16) hC1 dL_come_12 (by decide) ?_
      refine aw_lastoreN (pc := 16) (w := 1) hC1 (by decide) dL_come_16 (fun μ5 => ?_)
      refine aw_goto (pc := 17) (tgt := 24) hC1 dL_come_17 (by decide) ?_
      refine aw_iconst (pc := 24) (v := 0) hC1 dL_come_24 ic0 ?_
      exact aw_iret hC1 dL_come_25
  · skip
    by_cases h3 : i = 3
    · skip
      subst h3
      refine Or.inr ⟨20, ⟨[], ⟨0, 17, 20, 24⟩, [], "java/lang/IndexOutOfBoundsException", rfl, ht, (fun z hz => absurd hz List.not_mem_nil), rfl, by decide, kw873, kca3, rfl⟩, fun q => ?_⟩
      refine aw_eq (E' := some (1, μ3)) rfl ?_
      refine aw_astore (pc := 20) hC1 dL_come_20 rfl (by decide) ?_
      refine aw_iconst (pc := 22) (v := 1) hC1 dL_come_22 ic1 ?_
      exact aw_iret hC1 dL_come_23
    left
    have h0 : ¬ i = 0 := fun e => hi (by rw [e]; rfl)
    exact (if_neg h0).trans ((if_neg h3).trans (rfl))
theorem dL_key_0 : decode cL_key 0 = .ok (.aload_n 3, 1) := by decide +kernel
theorem dL_key_1 : decode cL_key 1 = .ok (.iconst 0, 1) := by decide +kernel
theorem dL_key_2 : decode cL_key 2 = .ok (.aload_n 0, 1) := by decide +kernel
theorem dL_key_3 : decode cL_key 3 = .ok (.iload_n 1, 1) := by decide +kernel
theorem dL_key_4 : decode cL_key 4 = .ok (.iload_n 2, 1) := by decide +kernel
theorem dL_key_5 : decode cL_key 5 = .ok (.invokevirtual 46, 3) := by decide +kernel
theorem dL_key_8 : decode cL_key 8 = .ok (.ifCond .eq 7, 3) := by decide +kernel
theorem dL_key_11 : decode cL_key 11 = .ok (.lconst 1, 1) := by decide +kernel
theorem dL_key_12 : decode cL_key 12 = .ok (.goto 4, 3) := by decide +kernel
theorem dL_key_15 : decode cL_key 15 = .ok (.lconst 0, 1) := by decide +kernel
theorem dL_key_16 : decode cL_key 16 = .ok (.lastore, 1) := by decide +kernel
theorem dL_key_17 : decode cL_key 17 = .ok (.goto 7, 3) := by decide +kernel
theorem dL_key_20 : decode cL_key 20 = .ok (.astore 4, 2) := by decide +kernel
theorem dL_key_22 : decode cL_key 22 = .ok (.iconst 1, 1) := by decide +kernel
theorem dL_key_23 : decode cL_key 23 = .ok (.ireturn, 1) := by decide +kernel
theorem dL_key_24 : decode cL_key 24 = .ok (.iconst 0, 1) := by decide +kernel
theorem dL_key_25 : decode cL_key 25 = .ok (.ireturn, 1) := by decide +kernel
def f_L_key (μ : Mem) (a2 : Int32) (a3 : Int32) : Option (Int32 × Mem) := (f_X9_key μ a2 a3).bind fun (q1 : Nat × Int32 × Mem) => if q1.1 = 0 then (if q1.2.1 = 0 then (ix 0 1 (nm (upm q1.2.2 0 22 (Int32.toNatClampNeg 0) 0) fun (μ4 : Mem) => some (0, μ4))) else (ix 0 1 (nm (upm q1.2.2 0 22 (Int32.toNatClampNeg 0) 1) fun (μ5 : Mem) => some (0, μ5)))) else if q1.1 = 3 then (some (1, q1.2.2)) else none
set_option maxHeartbeats 4000000 in
set_option maxRecDepth 100000 in
theorem c_L_key (G : GG) (l : Launch) (hl0 : l.stackTraces = false) (μ : Mem) (a2 : Int32) (a3 : Int32) : CHL G l yL_key (.codeWith yL_key cL_key 5 (some .int) [(0, 17, 20, 24)]) 6 [.ref (gad G 0 0), .int a2, .int a3, .ref (gad G 0 22)] μ (f_L_key μ a2 a3) := by
  refine CHL.of (own := "SaturdayKeepLaw") (L0 := [some (.ref (gad G 0 0)), some (.int a2), some (.int a3), some (.ref (gad G 0 22)), none]) rfl rfl rfl (Nat.le_of_ble_eq_true rfl) (fun C hl hcs ht hC hC1 => ?_)
  subst hl
  delta f_L_key
  refine aw_aload_n (pc := 0) (i := 3) hC dL_key_0 rfl rfl ?_
  refine aw_iconst (pc := 1) (v := 0) hC dL_key_1 ic0 ?_
  refine aw_aload_n (pc := 2) (i := 0) hC dL_key_2 rfl rfl ?_
  refine aw_iload_n (pc := 3) (i := 1) hC dL_key_3 rfl rfl ?_
  refine aw_iload_n (pc := 4) (i := 2) hC dL_key_4 rfl rfl ?_
  refine aw_callVX (pc := 5) (As := [.int a2, .int a3]) hC hcs mb_X9_key kw1004 (by decide) (c_X9_key G C.2.1 hl0 μ a2 a3) (v0 (j := 0) (by decide)) rfl rfl rfl rfl (Nat.le_of_ble_eq_true rfl) dL_key_5 (fun x2 μ3 => ?_) (fun i x2 μ3 hi => ?_)
  · skip
    refine aw_eq (E' := if x2 = 0 then (ix 0 1 (nm (upm μ3 0 22 (Int32.toNatClampNeg 0) 0) fun (μ4 : Mem) => some (0, μ4))) else (ix 0 1 (nm (upm μ3 0 22 (Int32.toNatClampNeg 0) 1) fun (μ5 : Mem) => some (0, μ5)))) rfl ?_
    refine aw_if_eq (pc := 8) (tgt := 15) hC1 dL_key_8 (by decide) (fun _ => ?_) (fun _ => ?_)
    · skip
      refine aw_lconst (pc := 15) (v := 0) hC1 dL_key_15 lc0 ?_
      refine aw_lastoreN (pc := 16) (w := 0) hC1 (by decide) dL_key_16 (fun μ4 => ?_)
      refine aw_goto (pc := 17) (tgt := 24) hC1 dL_key_17 (by decide) ?_
      refine aw_iconst (pc := 24) (v := 0) hC1 dL_key_24 ic0 ?_
      exact aw_iret hC1 dL_key_25
    · skip
      refine aw_lconst (pc := 11) (v := 1) hC1 dL_key_11 lc1 ?_
      refine aw_goto (pc := 12) (tgt := 16) hC1 dL_key_12 (by decide) ?_
      refine aw_lastoreN (pc := 16) (w := 1) hC1 (by decide) dL_key_16 (fun μ5 => ?_)
      refine aw_goto (pc := 17) (tgt := 24) hC1 dL_key_17 (by decide) ?_
      refine aw_iconst (pc := 24) (v := 0) hC1 dL_key_24 ic0 ?_
      exact aw_iret hC1 dL_key_25
  · skip
    by_cases h3 : i = 3
    · skip
      subst h3
      refine Or.inr ⟨20, ⟨[], ⟨0, 17, 20, 24⟩, [], "java/lang/IndexOutOfBoundsException", rfl, ht, (fun z hz => absurd hz List.not_mem_nil), rfl, by decide, kw873, kca3, rfl⟩, fun q => ?_⟩
      refine aw_eq (E' := some (1, μ3)) rfl ?_
      refine aw_astore (pc := 20) hC1 dL_key_20 rfl (by decide) ?_
      refine aw_iconst (pc := 22) (v := 1) hC1 dL_key_22 ic1 ?_
      exact aw_iret hC1 dL_key_23
    left
    have h0 : ¬ i = 0 := fun e => hi (by rw [e]; rfl)
    exact (if_neg h0).trans ((if_neg h3).trans (rfl))
theorem dL_hole_0 : decode cL_hole 0 = .ok (.aload 4, 2) := by decide +kernel
theorem dL_hole_2 : decode cL_hole 2 = .ok (.iconst 0, 1) := by decide +kernel
theorem dL_hole_3 : decode cL_hole 3 = .ok (.aload_n 0, 1) := by decide +kernel
theorem dL_hole_4 : decode cL_hole 4 = .ok (.iload_n 1, 1) := by decide +kernel
theorem dL_hole_5 : decode cL_hole 5 = .ok (.iload_n 2, 1) := by decide +kernel
theorem dL_hole_6 : decode cL_hole 6 = .ok (.iload_n 3, 1) := by decide +kernel
theorem dL_hole_7 : decode cL_hole 7 = .ok (.invokevirtual 49, 3) := by decide +kernel
theorem dL_hole_10 : decode cL_hole 10 = .ok (.ifCond .eq 7, 3) := by decide +kernel
theorem dL_hole_13 : decode cL_hole 13 = .ok (.lconst 1, 1) := by decide +kernel
theorem dL_hole_14 : decode cL_hole 14 = .ok (.goto 4, 3) := by decide +kernel
theorem dL_hole_17 : decode cL_hole 17 = .ok (.lconst 0, 1) := by decide +kernel
theorem dL_hole_18 : decode cL_hole 18 = .ok (.lastore, 1) := by decide +kernel
theorem dL_hole_19 : decode cL_hole 19 = .ok (.goto 11, 3) := by decide +kernel
theorem dL_hole_22 : decode cL_hole 22 = .ok (.astore 5, 2) := by decide +kernel
theorem dL_hole_24 : decode cL_hole 24 = .ok (.iconst 1, 1) := by decide +kernel
theorem dL_hole_25 : decode cL_hole 25 = .ok (.ireturn, 1) := by decide +kernel
theorem dL_hole_26 : decode cL_hole 26 = .ok (.astore 5, 2) := by decide +kernel
theorem dL_hole_28 : decode cL_hole 28 = .ok (.iconst 2, 1) := by decide +kernel
theorem dL_hole_29 : decode cL_hole 29 = .ok (.ireturn, 1) := by decide +kernel
theorem dL_hole_30 : decode cL_hole 30 = .ok (.iconst 0, 1) := by decide +kernel
theorem dL_hole_31 : decode cL_hole 31 = .ok (.ireturn, 1) := by decide +kernel
def f_L_hole (μ : Mem) (a2 : Int32) (a3 : Int32) (a4 : Int32) : Option (Int32 × Mem) := (f_X9_hole μ a2 a3 a4).bind fun (q1 : Nat × Int32 × Mem) => if q1.1 = 0 then (if q1.2.1 = 0 then (ix 0 1 (nm (upm q1.2.2 0 22 (Int32.toNatClampNeg 0) 0) fun (μ4 : Mem) => some (0, μ4))) else (ix 0 1 (nm (upm q1.2.2 0 22 (Int32.toNatClampNeg 0) 1) fun (μ5 : Mem) => some (0, μ5)))) else if q1.1 = 3 then (some (1, q1.2.2)) else if q1.1 = 1 then (some (2, q1.2.2)) else none
set_option maxHeartbeats 4000000 in
set_option maxRecDepth 100000 in
theorem c_L_hole (G : GG) (l : Launch) (hl0 : l.stackTraces = false) (μ : Mem) (a2 : Int32) (a3 : Int32) (a4 : Int32) : CHL G l yL_hole (.codeWith yL_hole cL_hole 6 (some .int) [(0, 19, 22, 24), (0, 19, 26, 13)]) 6 [.ref (gad G 0 0), .int a2, .int a3, .int a4, .ref (gad G 0 22)] μ (f_L_hole μ a2 a3 a4) := by
  refine CHL.of (own := "SaturdayKeepLaw") (L0 := [some (.ref (gad G 0 0)), some (.int a2), some (.int a3), some (.int a4), some (.ref (gad G 0 22)), none]) rfl rfl rfl (Nat.le_of_ble_eq_true rfl) (fun C hl hcs ht hC hC1 => ?_)
  subst hl
  delta f_L_hole
  refine aw_aload (pc := 0) hC dL_hole_0 rfl ?_
  refine aw_iconst (pc := 2) (v := 0) hC dL_hole_2 ic0 ?_
  refine aw_aload_n (pc := 3) (i := 0) hC dL_hole_3 rfl rfl ?_
  refine aw_iload_n (pc := 4) (i := 1) hC dL_hole_4 rfl rfl ?_
  refine aw_iload_n (pc := 5) (i := 2) hC dL_hole_5 rfl rfl ?_
  refine aw_iload_n (pc := 6) (i := 3) hC dL_hole_6 rfl rfl ?_
  refine aw_callVX (pc := 7) (As := [.int a2, .int a3, .int a4]) hC hcs mb_X9_hole kw1011 (by decide) (c_X9_hole G C.2.1 hl0 μ a2 a3 a4) (v0 (j := 0) (by decide)) rfl rfl rfl rfl (Nat.le_of_ble_eq_true rfl) dL_hole_7 (fun x2 μ3 => ?_) (fun i x2 μ3 hi => ?_)
  · skip
    refine aw_eq (E' := if x2 = 0 then (ix 0 1 (nm (upm μ3 0 22 (Int32.toNatClampNeg 0) 0) fun (μ4 : Mem) => some (0, μ4))) else (ix 0 1 (nm (upm μ3 0 22 (Int32.toNatClampNeg 0) 1) fun (μ5 : Mem) => some (0, μ5)))) rfl ?_
    refine aw_if_eq (pc := 10) (tgt := 17) hC1 dL_hole_10 (by decide) (fun _ => ?_) (fun _ => ?_)
    · skip
      refine aw_lconst (pc := 17) (v := 0) hC1 dL_hole_17 lc0 ?_
      refine aw_lastoreN (pc := 18) (w := 0) hC1 (by decide) dL_hole_18 (fun μ4 => ?_)
      refine aw_goto (pc := 19) (tgt := 30) hC1 dL_hole_19 (by decide) ?_
      refine aw_iconst (pc := 30) (v := 0) hC1 dL_hole_30 ic0 ?_
      exact aw_iret hC1 dL_hole_31
    · skip
      refine aw_lconst (pc := 13) (v := 1) hC1 dL_hole_13 lc1 ?_
      refine aw_goto (pc := 14) (tgt := 18) hC1 dL_hole_14 (by decide) ?_
      refine aw_lastoreN (pc := 18) (w := 1) hC1 (by decide) dL_hole_18 (fun μ5 => ?_)
      refine aw_goto (pc := 19) (tgt := 30) hC1 dL_hole_19 (by decide) ?_
      refine aw_iconst (pc := 30) (v := 0) hC1 dL_hole_30 ic0 ?_
      exact aw_iret hC1 dL_hole_31
  · skip
    by_cases h3 : i = 3
    · skip
      subst h3
      refine Or.inr ⟨22, ⟨[], ⟨0, 19, 22, 24⟩, [⟨0, 19, 26, 13⟩], "java/lang/IndexOutOfBoundsException", rfl, ht, (fun z hz => absurd hz List.not_mem_nil), rfl, by decide, kw873, kca3, rfl⟩, fun q => ?_⟩
      refine aw_eq (E' := some (1, μ3)) rfl ?_
      refine aw_astore (pc := 22) hC1 dL_hole_22 rfl (by decide) ?_
      refine aw_iconst (pc := 24) (v := 1) hC1 dL_hole_24 ic1 ?_
      exact aw_iret hC1 dL_hole_25
    by_cases h1 : i = 1
    · skip
      subst h1
      refine Or.inr ⟨26, ⟨[⟨0, 19, 22, 24⟩], ⟨0, 19, 26, 13⟩, [], "java/lang/IllegalArgumentException", rfl, ht, (by intro z hz; simp only [List.mem_cons, List.not_mem_nil, or_false] at hz; rcases hz with rfl; exact Or.inr ⟨by decide, _, kw873, by decide⟩), rfl, by decide, kw580, kca1, rfl⟩, fun q => ?_⟩
      refine aw_eq (E' := some (2, μ3)) rfl ?_
      refine aw_astore (pc := 26) hC1 dL_hole_26 rfl (by decide) ?_
      refine aw_iconst (pc := 28) (v := 2) hC1 dL_hole_28 ic2 ?_
      exact aw_iret hC1 dL_hole_29
    left
    have h0 : ¬ i = 0 := fun e => hi (by rw [e]; rfl)
    exact (if_neg h0).trans ((if_neg h3).trans ((if_neg h1).trans (rfl)))
theorem dL_bath_0 : decode cL_bath 0 = .ok (.aload_n 2, 1) := by decide +kernel
theorem dL_bath_1 : decode cL_bath 1 = .ok (.iconst 0, 1) := by decide +kernel
theorem dL_bath_2 : decode cL_bath 2 = .ok (.aload_n 0, 1) := by decide +kernel
theorem dL_bath_3 : decode cL_bath 3 = .ok (.iload_n 1, 1) := by decide +kernel
theorem dL_bath_4 : decode cL_bath 4 = .ok (.invokevirtual 53, 3) := by decide +kernel
theorem dL_bath_7 : decode cL_bath 7 = .ok (.i2l, 1) := by decide +kernel
theorem dL_bath_8 : decode cL_bath 8 = .ok (.lastore, 1) := by decide +kernel
theorem dL_bath_9 : decode cL_bath 9 = .ok (.goto 6, 3) := by decide +kernel
theorem dL_bath_12 : decode cL_bath 12 = .ok (.astore_n 3, 1) := by decide +kernel
theorem dL_bath_13 : decode cL_bath 13 = .ok (.iconst 1, 1) := by decide +kernel
theorem dL_bath_14 : decode cL_bath 14 = .ok (.ireturn, 1) := by decide +kernel
theorem dL_bath_15 : decode cL_bath 15 = .ok (.iconst 0, 1) := by decide +kernel
theorem dL_bath_16 : decode cL_bath 16 = .ok (.ireturn, 1) := by decide +kernel
def f_L_bath (μ : Mem) (a2 : Int32) : Option (Int32 × Mem) := (f_X9_bath μ a2).bind fun (q1 : Nat × Int32 × Mem) => if q1.1 = 0 then (ix 0 1 (nm (upm q1.2.2 0 22 (Int32.toNatClampNeg 0) q1.2.1) fun (μ4 : Mem) => some (0, μ4))) else if q1.1 = 3 then (some (1, q1.2.2)) else none
set_option maxHeartbeats 4000000 in
set_option maxRecDepth 100000 in
theorem c_L_bath (G : GG) (l : Launch) (hl0 : l.stackTraces = false) (μ : Mem) (a2 : Int32) : CHL G l yL_bath (.codeWith yL_bath cL_bath 4 (some .int) [(0, 9, 12, 24)]) 6 [.ref (gad G 0 0), .int a2, .ref (gad G 0 22)] μ (f_L_bath μ a2) := by
  refine CHL.of (own := "SaturdayKeepLaw") (L0 := [some (.ref (gad G 0 0)), some (.int a2), some (.ref (gad G 0 22)), none]) rfl rfl rfl (Nat.le_of_ble_eq_true rfl) (fun C hl hcs ht hC hC1 => ?_)
  subst hl
  delta f_L_bath
  refine aw_aload_n (pc := 0) (i := 2) hC dL_bath_0 rfl rfl ?_
  refine aw_iconst (pc := 1) (v := 0) hC dL_bath_1 ic0 ?_
  refine aw_aload_n (pc := 2) (i := 0) hC dL_bath_2 rfl rfl ?_
  refine aw_iload_n (pc := 3) (i := 1) hC dL_bath_3 rfl rfl ?_
  refine aw_callVX (pc := 4) (As := [.int a2]) hC hcs mb_X9_bath kw1020 (by decide) (c_X9_bath G C.2.1 hl0 μ a2) (v0 (j := 0) (by decide)) rfl rfl rfl rfl (Nat.le_of_ble_eq_true rfl) dL_bath_4 (fun x2 μ3 => ?_) (fun i x2 μ3 hi => ?_)
  · skip
    refine aw_eq (E' := ix 0 1 (nm (upm μ3 0 22 (Int32.toNatClampNeg 0) x2) fun (μ4 : Mem) => some (0, μ4))) rfl ?_
    refine aw_i2l (pc := 7) hC1 dL_bath_7 ?_
    refine aw_lastoreN (pc := 8) (w := x2) hC1 rfl dL_bath_8 (fun μ4 => ?_)
    refine aw_goto (pc := 9) (tgt := 15) hC1 dL_bath_9 (by decide) ?_
    refine aw_iconst (pc := 15) (v := 0) hC1 dL_bath_15 ic0 ?_
    exact aw_iret hC1 dL_bath_16
  · skip
    by_cases h3 : i = 3
    · skip
      subst h3
      refine Or.inr ⟨12, ⟨[], ⟨0, 9, 12, 24⟩, [], "java/lang/IndexOutOfBoundsException", rfl, ht, (fun z hz => absurd hz List.not_mem_nil), rfl, by decide, kw873, kca3, rfl⟩, fun q => ?_⟩
      refine aw_eq (E' := some (1, μ3)) rfl ?_
      refine aw_astore_n (pc := 12) (i := 3) hC1 dL_bath_12 rfl rfl (by decide) ?_
      refine aw_iconst (pc := 13) (v := 1) hC1 dL_bath_13 ic1 ?_
      exact aw_iret hC1 dL_bath_14
    left
    have h0 : ¬ i = 0 := fun e => hi (by rw [e]; rfl)
    exact (if_neg h0).trans ((if_neg h3).trans (rfl))
theorem dL_keep_0 : decode cL_keep 0 = .ok (.aload_n 2, 1) := by decide +kernel
theorem dL_keep_1 : decode cL_keep 1 = .ok (.iconst 0, 1) := by decide +kernel
theorem dL_keep_2 : decode cL_keep 2 = .ok (.aload_n 0, 1) := by decide +kernel
theorem dL_keep_3 : decode cL_keep 3 = .ok (.iload_n 1, 1) := by decide +kernel
theorem dL_keep_4 : decode cL_keep 4 = .ok (.invokevirtual 57, 3) := by decide +kernel
theorem dL_keep_7 : decode cL_keep 7 = .ok (.i2l, 1) := by decide +kernel
theorem dL_keep_8 : decode cL_keep 8 = .ok (.lastore, 1) := by decide +kernel
theorem dL_keep_9 : decode cL_keep 9 = .ok (.goto 6, 3) := by decide +kernel
theorem dL_keep_12 : decode cL_keep 12 = .ok (.astore_n 3, 1) := by decide +kernel
theorem dL_keep_13 : decode cL_keep 13 = .ok (.iconst 1, 1) := by decide +kernel
theorem dL_keep_14 : decode cL_keep 14 = .ok (.ireturn, 1) := by decide +kernel
theorem dL_keep_15 : decode cL_keep 15 = .ok (.iconst 0, 1) := by decide +kernel
theorem dL_keep_16 : decode cL_keep 16 = .ok (.ireturn, 1) := by decide +kernel
def f_L_keep (μ : Mem) (a2 : Int32) : Option (Int32 × Mem) := (f_X9_keep μ a2).bind fun (q1 : Nat × Int32 × Mem) => if q1.1 = 0 then (ix 0 1 (nm (upm q1.2.2 0 22 (Int32.toNatClampNeg 0) q1.2.1) fun (μ4 : Mem) => some (0, μ4))) else if q1.1 = 3 then (some (1, q1.2.2)) else none
set_option maxHeartbeats 4000000 in
set_option maxRecDepth 100000 in
theorem c_L_keep (G : GG) (l : Launch) (hl0 : l.stackTraces = false) (μ : Mem) (a2 : Int32) : CHL G l yL_keep (.codeWith yL_keep cL_keep 4 (some .int) [(0, 9, 12, 24)]) 6 [.ref (gad G 0 0), .int a2, .ref (gad G 0 22)] μ (f_L_keep μ a2) := by
  refine CHL.of (own := "SaturdayKeepLaw") (L0 := [some (.ref (gad G 0 0)), some (.int a2), some (.ref (gad G 0 22)), none]) rfl rfl rfl (Nat.le_of_ble_eq_true rfl) (fun C hl hcs ht hC hC1 => ?_)
  subst hl
  delta f_L_keep
  refine aw_aload_n (pc := 0) (i := 2) hC dL_keep_0 rfl rfl ?_
  refine aw_iconst (pc := 1) (v := 0) hC dL_keep_1 ic0 ?_
  refine aw_aload_n (pc := 2) (i := 0) hC dL_keep_2 rfl rfl ?_
  refine aw_iload_n (pc := 3) (i := 1) hC dL_keep_3 rfl rfl ?_
  refine aw_callVX (pc := 4) (As := [.int a2]) hC hcs mb_X9_keep kw1027 (by decide) (c_X9_keep G C.2.1 hl0 μ a2) (v0 (j := 0) (by decide)) rfl rfl rfl rfl (Nat.le_of_ble_eq_true rfl) dL_keep_4 (fun x2 μ3 => ?_) (fun i x2 μ3 hi => ?_)
  · skip
    refine aw_eq (E' := ix 0 1 (nm (upm μ3 0 22 (Int32.toNatClampNeg 0) x2) fun (μ4 : Mem) => some (0, μ4))) rfl ?_
    refine aw_i2l (pc := 7) hC1 dL_keep_7 ?_
    refine aw_lastoreN (pc := 8) (w := x2) hC1 rfl dL_keep_8 (fun μ4 => ?_)
    refine aw_goto (pc := 9) (tgt := 15) hC1 dL_keep_9 (by decide) ?_
    refine aw_iconst (pc := 15) (v := 0) hC1 dL_keep_15 ic0 ?_
    exact aw_iret hC1 dL_keep_16
  · skip
    by_cases h3 : i = 3
    · skip
      subst h3
      refine Or.inr ⟨12, ⟨[], ⟨0, 9, 12, 24⟩, [], "java/lang/IndexOutOfBoundsException", rfl, ht, (fun z hz => absurd hz List.not_mem_nil), rfl, by decide, kw873, kca3, rfl⟩, fun q => ?_⟩
      refine aw_eq (E' := some (1, μ3)) rfl ?_
      refine aw_astore_n (pc := 12) (i := 3) hC1 dL_keep_12 rfl rfl (by decide) ?_
      refine aw_iconst (pc := 13) (v := 1) hC1 dL_keep_13 ic1 ?_
      exact aw_iret hC1 dL_keep_14
    left
    have h0 : ¬ i = 0 := fun e => hi (by rw [e]; rfl)
    exact (if_neg h0).trans ((if_neg h3).trans (rfl))
theorem dL_masons_0 : decode cL_masons 0 = .ok (.aload_n 2, 1) := by decide +kernel
theorem dL_masons_1 : decode cL_masons 1 = .ok (.iconst 0, 1) := by decide +kernel
theorem dL_masons_2 : decode cL_masons 2 = .ok (.aload_n 0, 1) := by decide +kernel
theorem dL_masons_3 : decode cL_masons 3 = .ok (.iload_n 1, 1) := by decide +kernel
theorem dL_masons_4 : decode cL_masons 4 = .ok (.invokevirtual 60, 3) := by decide +kernel
theorem dL_masons_7 : decode cL_masons 7 = .ok (.i2l, 1) := by decide +kernel
theorem dL_masons_8 : decode cL_masons 8 = .ok (.lastore, 1) := by decide +kernel
theorem dL_masons_9 : decode cL_masons 9 = .ok (.goto 6, 3) := by decide +kernel
theorem dL_masons_12 : decode cL_masons 12 = .ok (.astore_n 3, 1) := by decide +kernel
theorem dL_masons_13 : decode cL_masons 13 = .ok (.iconst 1, 1) := by decide +kernel
theorem dL_masons_14 : decode cL_masons 14 = .ok (.ireturn, 1) := by decide +kernel
theorem dL_masons_15 : decode cL_masons 15 = .ok (.iconst 0, 1) := by decide +kernel
theorem dL_masons_16 : decode cL_masons 16 = .ok (.ireturn, 1) := by decide +kernel
def f_L_masons (μ : Mem) (a2 : Int32) : Option (Int32 × Mem) := (f_X9_masons μ a2).bind fun (q1 : Nat × Int32 × Mem) => if q1.1 = 0 then (ix 0 1 (nm (upm q1.2.2 0 22 (Int32.toNatClampNeg 0) q1.2.1) fun (μ4 : Mem) => some (0, μ4))) else if q1.1 = 1 then (some (1, q1.2.2)) else none
set_option maxHeartbeats 4000000 in
set_option maxRecDepth 100000 in
theorem c_L_masons (G : GG) (l : Launch) (hl0 : l.stackTraces = false) (μ : Mem) (a2 : Int32) : CHL G l yL_masons (.codeWith yL_masons cL_masons 4 (some .int) [(0, 9, 12, 13)]) 6 [.ref (gad G 0 0), .int a2, .ref (gad G 0 22)] μ (f_L_masons μ a2) := by
  refine CHL.of (own := "SaturdayKeepLaw") (L0 := [some (.ref (gad G 0 0)), some (.int a2), some (.ref (gad G 0 22)), none]) rfl rfl rfl (Nat.le_of_ble_eq_true rfl) (fun C hl hcs ht hC hC1 => ?_)
  subst hl
  delta f_L_masons
  refine aw_aload_n (pc := 0) (i := 2) hC dL_masons_0 rfl rfl ?_
  refine aw_iconst (pc := 1) (v := 0) hC dL_masons_1 ic0 ?_
  refine aw_aload_n (pc := 2) (i := 0) hC dL_masons_2 rfl rfl ?_
  refine aw_iload_n (pc := 3) (i := 1) hC dL_masons_3 rfl rfl ?_
  refine aw_callVX (pc := 4) (As := [.int a2]) hC hcs mb_X9_masons kw1034 (by decide) (c_X9_masons G C.2.1 hl0 μ a2) (v0 (j := 0) (by decide)) rfl rfl rfl rfl (Nat.le_of_ble_eq_true rfl) dL_masons_4 (fun x2 μ3 => ?_) (fun i x2 μ3 hi => ?_)
  · skip
    refine aw_eq (E' := ix 0 1 (nm (upm μ3 0 22 (Int32.toNatClampNeg 0) x2) fun (μ4 : Mem) => some (0, μ4))) rfl ?_
    refine aw_i2l (pc := 7) hC1 dL_masons_7 ?_
    refine aw_lastoreN (pc := 8) (w := x2) hC1 rfl dL_masons_8 (fun μ4 => ?_)
    refine aw_goto (pc := 9) (tgt := 15) hC1 dL_masons_9 (by decide) ?_
    refine aw_iconst (pc := 15) (v := 0) hC1 dL_masons_15 ic0 ?_
    exact aw_iret hC1 dL_masons_16
  · skip
    by_cases h1 : i = 1
    · skip
      subst h1
      refine Or.inr ⟨12, ⟨[], ⟨0, 9, 12, 13⟩, [], "java/lang/IllegalArgumentException", rfl, ht, (fun z hz => absurd hz List.not_mem_nil), rfl, by decide, kw580, kca1, rfl⟩, fun q => ?_⟩
      refine aw_eq (E' := some (1, μ3)) rfl ?_
      refine aw_astore_n (pc := 12) (i := 3) hC1 dL_masons_12 rfl rfl (by decide) ?_
      refine aw_iconst (pc := 13) (v := 1) hC1 dL_masons_13 ic1 ?_
      exact aw_iret hC1 dL_masons_14
    left
    have h0 : ¬ i = 0 := fun e => hi (by rw [e]; rfl)
    exact (if_neg h0).trans ((if_neg h1).trans (rfl))
theorem dL_buy_0 : decode cL_buy 0 = .ok (.aload_n 2, 1) := by decide +kernel
theorem dL_buy_1 : decode cL_buy 1 = .ok (.iconst 0, 1) := by decide +kernel
theorem dL_buy_2 : decode cL_buy 2 = .ok (.aload_n 0, 1) := by decide +kernel
theorem dL_buy_3 : decode cL_buy 3 = .ok (.iload_n 1, 1) := by decide +kernel
theorem dL_buy_4 : decode cL_buy 4 = .ok (.invokevirtual 63, 3) := by decide +kernel
theorem dL_buy_7 : decode cL_buy 7 = .ok (.i2l, 1) := by decide +kernel
theorem dL_buy_8 : decode cL_buy 8 = .ok (.lastore, 1) := by decide +kernel
theorem dL_buy_9 : decode cL_buy 9 = .ok (.goto 6, 3) := by decide +kernel
theorem dL_buy_12 : decode cL_buy 12 = .ok (.astore_n 3, 1) := by decide +kernel
theorem dL_buy_13 : decode cL_buy 13 = .ok (.iconst 1, 1) := by decide +kernel
theorem dL_buy_14 : decode cL_buy 14 = .ok (.ireturn, 1) := by decide +kernel
theorem dL_buy_15 : decode cL_buy 15 = .ok (.iconst 0, 1) := by decide +kernel
theorem dL_buy_16 : decode cL_buy 16 = .ok (.ireturn, 1) := by decide +kernel
def f_L_buy (μ : Mem) (a2 : Int32) : Option (Int32 × Mem) := (f_X9_buy μ a2).bind fun (q1 : Nat × Int32 × Mem) => if q1.1 = 0 then (ix 0 1 (nm (upm q1.2.2 0 22 (Int32.toNatClampNeg 0) q1.2.1) fun (μ4 : Mem) => some (0, μ4))) else if q1.1 = 1 then (some (1, q1.2.2)) else none
set_option maxHeartbeats 4000000 in
set_option maxRecDepth 100000 in
theorem c_L_buy (G : GG) (l : Launch) (hl0 : l.stackTraces = false) (μ : Mem) (a2 : Int32) : CHL G l yL_buy (.codeWith yL_buy cL_buy 4 (some .int) [(0, 9, 12, 13)]) 6 [.ref (gad G 0 0), .int a2, .ref (gad G 0 22)] μ (f_L_buy μ a2) := by
  refine CHL.of (own := "SaturdayKeepLaw") (L0 := [some (.ref (gad G 0 0)), some (.int a2), some (.ref (gad G 0 22)), none]) rfl rfl rfl (Nat.le_of_ble_eq_true rfl) (fun C hl hcs ht hC hC1 => ?_)
  subst hl
  delta f_L_buy
  refine aw_aload_n (pc := 0) (i := 2) hC dL_buy_0 rfl rfl ?_
  refine aw_iconst (pc := 1) (v := 0) hC dL_buy_1 ic0 ?_
  refine aw_aload_n (pc := 2) (i := 0) hC dL_buy_2 rfl rfl ?_
  refine aw_iload_n (pc := 3) (i := 1) hC dL_buy_3 rfl rfl ?_
  refine aw_callVX (pc := 4) (As := [.int a2]) hC hcs mb_X9_buy kw1042 (by decide) (c_X9_buy G C.2.1 hl0 μ a2) (v0 (j := 0) (by decide)) rfl rfl rfl rfl (Nat.le_of_ble_eq_true rfl) dL_buy_4 (fun x2 μ3 => ?_) (fun i x2 μ3 hi => ?_)
  · skip
    refine aw_eq (E' := ix 0 1 (nm (upm μ3 0 22 (Int32.toNatClampNeg 0) x2) fun (μ4 : Mem) => some (0, μ4))) rfl ?_
    refine aw_i2l (pc := 7) hC1 dL_buy_7 ?_
    refine aw_lastoreN (pc := 8) (w := x2) hC1 rfl dL_buy_8 (fun μ4 => ?_)
    refine aw_goto (pc := 9) (tgt := 15) hC1 dL_buy_9 (by decide) ?_
    refine aw_iconst (pc := 15) (v := 0) hC1 dL_buy_15 ic0 ?_
    exact aw_iret hC1 dL_buy_16
  · skip
    by_cases h1 : i = 1
    · skip
      subst h1
      refine Or.inr ⟨12, ⟨[], ⟨0, 9, 12, 13⟩, [], "java/lang/IllegalArgumentException", rfl, ht, (fun z hz => absurd hz List.not_mem_nil), rfl, by decide, kw580, kca1, rfl⟩, fun q => ?_⟩
      refine aw_eq (E' := some (1, μ3)) rfl ?_
      refine aw_astore_n (pc := 12) (i := 3) hC1 dL_buy_12 rfl rfl (by decide) ?_
      refine aw_iconst (pc := 13) (v := 1) hC1 dL_buy_13 ic1 ?_
      exact aw_iret hC1 dL_buy_14
    left
    have h0 : ¬ i = 0 := fun e => hi (by rw [e]; rfl)
    exact (if_neg h0).trans ((if_neg h1).trans (rfl))
theorem dL_calm_0 : decode cL_calm 0 = .ok (.aload_n 2, 1) := by decide +kernel
theorem dL_calm_1 : decode cL_calm 1 = .ok (.iconst 0, 1) := by decide +kernel
theorem dL_calm_2 : decode cL_calm 2 = .ok (.aload_n 0, 1) := by decide +kernel
theorem dL_calm_3 : decode cL_calm 3 = .ok (.iload_n 1, 1) := by decide +kernel
theorem dL_calm_4 : decode cL_calm 4 = .ok (.invokevirtual 66, 3) := by decide +kernel
theorem dL_calm_7 : decode cL_calm 7 = .ok (.i2l, 1) := by decide +kernel
theorem dL_calm_8 : decode cL_calm 8 = .ok (.lastore, 1) := by decide +kernel
theorem dL_calm_9 : decode cL_calm 9 = .ok (.goto 6, 3) := by decide +kernel
theorem dL_calm_12 : decode cL_calm 12 = .ok (.astore_n 3, 1) := by decide +kernel
theorem dL_calm_13 : decode cL_calm 13 = .ok (.iconst 1, 1) := by decide +kernel
theorem dL_calm_14 : decode cL_calm 14 = .ok (.ireturn, 1) := by decide +kernel
theorem dL_calm_15 : decode cL_calm 15 = .ok (.iconst 0, 1) := by decide +kernel
theorem dL_calm_16 : decode cL_calm 16 = .ok (.ireturn, 1) := by decide +kernel
def f_L_calm (μ : Mem) (a2 : Int32) : Option (Int32 × Mem) := (f_X9_calm μ a2).bind fun (q1 : Nat × Int32 × Mem) => if q1.1 = 0 then (ix 0 1 (nm (upm q1.2.2 0 22 (Int32.toNatClampNeg 0) q1.2.1) fun (μ4 : Mem) => some (0, μ4))) else if q1.1 = 3 then (some (1, q1.2.2)) else none
set_option maxHeartbeats 4000000 in
set_option maxRecDepth 100000 in
theorem c_L_calm (G : GG) (l : Launch) (hl0 : l.stackTraces = false) (μ : Mem) (a2 : Int32) : CHL G l yL_calm (.codeWith yL_calm cL_calm 4 (some .int) [(0, 9, 12, 24)]) 6 [.ref (gad G 0 0), .int a2, .ref (gad G 0 22)] μ (f_L_calm μ a2) := by
  refine CHL.of (own := "SaturdayKeepLaw") (L0 := [some (.ref (gad G 0 0)), some (.int a2), some (.ref (gad G 0 22)), none]) rfl rfl rfl (Nat.le_of_ble_eq_true rfl) (fun C hl hcs ht hC hC1 => ?_)
  subst hl
  delta f_L_calm
  refine aw_aload_n (pc := 0) (i := 2) hC dL_calm_0 rfl rfl ?_
  refine aw_iconst (pc := 1) (v := 0) hC dL_calm_1 ic0 ?_
  refine aw_aload_n (pc := 2) (i := 0) hC dL_calm_2 rfl rfl ?_
  refine aw_iload_n (pc := 3) (i := 1) hC dL_calm_3 rfl rfl ?_
  refine aw_callVX (pc := 4) (As := [.int a2]) hC hcs mb_X9_calm kw1050 (by decide) (c_X9_calm G C.2.1 hl0 μ a2) (v0 (j := 0) (by decide)) rfl rfl rfl rfl (Nat.le_of_ble_eq_true rfl) dL_calm_4 (fun x2 μ3 => ?_) (fun i x2 μ3 hi => ?_)
  · skip
    refine aw_eq (E' := ix 0 1 (nm (upm μ3 0 22 (Int32.toNatClampNeg 0) x2) fun (μ4 : Mem) => some (0, μ4))) rfl ?_
    refine aw_i2l (pc := 7) hC1 dL_calm_7 ?_
    refine aw_lastoreN (pc := 8) (w := x2) hC1 rfl dL_calm_8 (fun μ4 => ?_)
    refine aw_goto (pc := 9) (tgt := 15) hC1 dL_calm_9 (by decide) ?_
    refine aw_iconst (pc := 15) (v := 0) hC1 dL_calm_15 ic0 ?_
    exact aw_iret hC1 dL_calm_16
  · skip
    by_cases h3 : i = 3
    · skip
      subst h3
      refine Or.inr ⟨12, ⟨[], ⟨0, 9, 12, 24⟩, [], "java/lang/IndexOutOfBoundsException", rfl, ht, (fun z hz => absurd hz List.not_mem_nil), rfl, by decide, kw873, kca3, rfl⟩, fun q => ?_⟩
      refine aw_eq (E' := some (1, μ3)) rfl ?_
      refine aw_astore_n (pc := 12) (i := 3) hC1 dL_calm_12 rfl rfl (by decide) ?_
      refine aw_iconst (pc := 13) (v := 1) hC1 dL_calm_13 ic1 ?_
      exact aw_iret hC1 dL_calm_14
    left
    have h0 : ¬ i = 0 := fun e => hi (by rw [e]; rfl)
    exact (if_neg h0).trans ((if_neg h3).trans (rfl))
theorem dL_days_0 : decode cL_days 0 = .ok (.aload_n 2, 1) := by decide +kernel
theorem dL_days_1 : decode cL_days 1 = .ok (.iconst 0, 1) := by decide +kernel
theorem dL_days_2 : decode cL_days 2 = .ok (.aload_n 0, 1) := by decide +kernel
theorem dL_days_3 : decode cL_days 3 = .ok (.iload_n 1, 1) := by decide +kernel
theorem dL_days_4 : decode cL_days 4 = .ok (.invokevirtual 69, 3) := by decide +kernel
theorem dL_days_7 : decode cL_days 7 = .ok (.i2l, 1) := by decide +kernel
theorem dL_days_8 : decode cL_days 8 = .ok (.lastore, 1) := by decide +kernel
theorem dL_days_9 : decode cL_days 9 = .ok (.goto 6, 3) := by decide +kernel
theorem dL_days_12 : decode cL_days 12 = .ok (.astore_n 3, 1) := by decide +kernel
theorem dL_days_13 : decode cL_days 13 = .ok (.iconst 1, 1) := by decide +kernel
theorem dL_days_14 : decode cL_days 14 = .ok (.ireturn, 1) := by decide +kernel
theorem dL_days_15 : decode cL_days 15 = .ok (.iconst 0, 1) := by decide +kernel
theorem dL_days_16 : decode cL_days 16 = .ok (.ireturn, 1) := by decide +kernel
def f_L_days (μ : Mem) (a2 : Int32) : Option (Int32 × Mem) := (f_X9_days μ a2).bind fun (q1 : Nat × Int32 × Mem) => if q1.1 = 0 then (ix 0 1 (nm (upm q1.2.2 0 22 (Int32.toNatClampNeg 0) q1.2.1) fun (μ4 : Mem) => some (0, μ4))) else if q1.1 = 1 then (some (1, q1.2.2)) else none
set_option maxHeartbeats 4000000 in
set_option maxRecDepth 100000 in
theorem c_L_days (G : GG) (l : Launch) (hl0 : l.stackTraces = false) (μ : Mem) (a2 : Int32) : CHL G l yL_days (.codeWith yL_days cL_days 4 (some .int) [(0, 9, 12, 13)]) 9 [.ref (gad G 0 0), .int a2, .ref (gad G 0 22)] μ (f_L_days μ a2) := by
  refine CHL.of (own := "SaturdayKeepLaw") (L0 := [some (.ref (gad G 0 0)), some (.int a2), some (.ref (gad G 0 22)), none]) rfl rfl rfl (Nat.le_of_ble_eq_true rfl) (fun C hl hcs ht hC hC1 => ?_)
  subst hl
  delta f_L_days
  refine aw_aload_n (pc := 0) (i := 2) hC dL_days_0 rfl rfl ?_
  refine aw_iconst (pc := 1) (v := 0) hC dL_days_1 ic0 ?_
  refine aw_aload_n (pc := 2) (i := 0) hC dL_days_2 rfl rfl ?_
  refine aw_iload_n (pc := 3) (i := 1) hC dL_days_3 rfl rfl ?_
  refine aw_callVX (pc := 4) (As := [.int a2]) hC hcs mb_X9_days kw1063 (by decide) (c_X9_days G C.2.1 hl0 μ a2) (v0 (j := 0) (by decide)) rfl rfl rfl rfl (Nat.le_of_ble_eq_true rfl) dL_days_4 (fun x2 μ3 => ?_) (fun i x2 μ3 hi => ?_)
  · skip
    refine aw_eq (E' := ix 0 1 (nm (upm μ3 0 22 (Int32.toNatClampNeg 0) x2) fun (μ4 : Mem) => some (0, μ4))) rfl ?_
    refine aw_i2l (pc := 7) hC1 dL_days_7 ?_
    refine aw_lastoreN (pc := 8) (w := x2) hC1 rfl dL_days_8 (fun μ4 => ?_)
    refine aw_goto (pc := 9) (tgt := 15) hC1 dL_days_9 (by decide) ?_
    refine aw_iconst (pc := 15) (v := 0) hC1 dL_days_15 ic0 ?_
    exact aw_iret hC1 dL_days_16
  · skip
    by_cases h1 : i = 1
    · skip
      subst h1
      refine Or.inr ⟨12, ⟨[], ⟨0, 9, 12, 13⟩, [], "java/lang/IllegalArgumentException", rfl, ht, (fun z hz => absurd hz List.not_mem_nil), rfl, by decide, kw580, kca1, rfl⟩, fun q => ?_⟩
      refine aw_eq (E' := some (1, μ3)) rfl ?_
      refine aw_astore_n (pc := 12) (i := 3) hC1 dL_days_12 rfl rfl (by decide) ?_
      refine aw_iconst (pc := 13) (v := 1) hC1 dL_days_13 ic1 ?_
      exact aw_iret hC1 dL_days_14
    left
    have h0 : ¬ i = 0 := fun e => hi (by rw [e]; rfl)
    exact (if_neg h0).trans ((if_neg h1).trans (rfl))
theorem dL_ahead_0 : decode cL_ahead 0 = .ok (.aload 4, 2) := by decide +kernel
theorem dL_ahead_2 : decode cL_ahead 2 = .ok (.iconst 0, 1) := by decide +kernel
theorem dL_ahead_3 : decode cL_ahead 3 = .ok (.aload_n 0, 1) := by decide +kernel
theorem dL_ahead_4 : decode cL_ahead 4 = .ok (.iload_n 1, 1) := by decide +kernel
theorem dL_ahead_5 : decode cL_ahead 5 = .ok (.iload_n 2, 1) := by decide +kernel
theorem dL_ahead_6 : decode cL_ahead 6 = .ok (.iload_n 3, 1) := by decide +kernel
theorem dL_ahead_7 : decode cL_ahead 7 = .ok (.invokevirtual 72, 3) := by decide +kernel
theorem dL_ahead_10 : decode cL_ahead 10 = .ok (.i2l, 1) := by decide +kernel
theorem dL_ahead_11 : decode cL_ahead 11 = .ok (.lastore, 1) := by decide +kernel
theorem dL_ahead_12 : decode cL_ahead 12 = .ok (.goto 15, 3) := by decide +kernel
theorem dL_ahead_15 : decode cL_ahead 15 = .ok (.astore 5, 2) := by decide +kernel
theorem dL_ahead_17 : decode cL_ahead 17 = .ok (.iconst 1, 1) := by decide +kernel
theorem dL_ahead_18 : decode cL_ahead 18 = .ok (.ireturn, 1) := by decide +kernel
theorem dL_ahead_19 : decode cL_ahead 19 = .ok (.astore 5, 2) := by decide +kernel
theorem dL_ahead_21 : decode cL_ahead 21 = .ok (.iconst 2, 1) := by decide +kernel
theorem dL_ahead_22 : decode cL_ahead 22 = .ok (.ireturn, 1) := by decide +kernel
theorem dL_ahead_23 : decode cL_ahead 23 = .ok (.astore 5, 2) := by decide +kernel
theorem dL_ahead_25 : decode cL_ahead 25 = .ok (.iconst 3, 1) := by decide +kernel
theorem dL_ahead_26 : decode cL_ahead 26 = .ok (.ireturn, 1) := by decide +kernel
theorem dL_ahead_27 : decode cL_ahead 27 = .ok (.iconst 0, 1) := by decide +kernel
theorem dL_ahead_28 : decode cL_ahead 28 = .ok (.ireturn, 1) := by decide +kernel
def f_L_ahead (μ : Mem) (a2 : Int32) (a3 : Int32) (a4 : Int32) : Option (Int32 × Mem) := (f_X9_ahead μ a2 a3 a4).bind fun (q1 : Nat × Int32 × Mem) => if q1.1 = 0 then (ix 0 1 (nm (upm q1.2.2 0 22 (Int32.toNatClampNeg 0) q1.2.1) fun (μ4 : Mem) => some (0, μ4))) else if q1.1 = 3 then (some (1, q1.2.2)) else if q1.1 = 1 then (some (2, q1.2.2)) else if q1.1 = 4 then (some (3, q1.2.2)) else none
set_option maxHeartbeats 4000000 in
set_option maxRecDepth 100000 in
theorem c_L_ahead (G : GG) (l : Launch) (hl0 : l.stackTraces = false) (μ : Mem) (a2 : Int32) (a3 : Int32) (a4 : Int32) : CHL G l yL_ahead (.codeWith yL_ahead cL_ahead 6 (some .int) [(0, 12, 15, 24), (0, 12, 19, 13), (0, 12, 23, 26)]) 7 [.ref (gad G 0 0), .int a2, .int a3, .int a4, .ref (gad G 0 22)] μ (f_L_ahead μ a2 a3 a4) := by
  refine CHL.of (own := "SaturdayKeepLaw") (L0 := [some (.ref (gad G 0 0)), some (.int a2), some (.int a3), some (.int a4), some (.ref (gad G 0 22)), none]) rfl rfl rfl (Nat.le_of_ble_eq_true rfl) (fun C hl hcs ht hC hC1 => ?_)
  subst hl
  delta f_L_ahead
  refine aw_aload (pc := 0) hC dL_ahead_0 rfl ?_
  refine aw_iconst (pc := 2) (v := 0) hC dL_ahead_2 ic0 ?_
  refine aw_aload_n (pc := 3) (i := 0) hC dL_ahead_3 rfl rfl ?_
  refine aw_iload_n (pc := 4) (i := 1) hC dL_ahead_4 rfl rfl ?_
  refine aw_iload_n (pc := 5) (i := 2) hC dL_ahead_5 rfl rfl ?_
  refine aw_iload_n (pc := 6) (i := 3) hC dL_ahead_6 rfl rfl ?_
  refine aw_callVX (pc := 7) (As := [.int a2, .int a3, .int a4]) hC hcs mb_X9_ahead kw1106 (by decide) (c_X9_ahead G C.2.1 hl0 μ a2 a3 a4) (v0 (j := 0) (by decide)) rfl rfl rfl rfl (Nat.le_of_ble_eq_true rfl) dL_ahead_7 (fun x2 μ3 => ?_) (fun i x2 μ3 hi => ?_)
  · skip
    refine aw_eq (E' := ix 0 1 (nm (upm μ3 0 22 (Int32.toNatClampNeg 0) x2) fun (μ4 : Mem) => some (0, μ4))) rfl ?_
    refine aw_i2l (pc := 10) hC1 dL_ahead_10 ?_
    refine aw_lastoreN (pc := 11) (w := x2) hC1 rfl dL_ahead_11 (fun μ4 => ?_)
    refine aw_goto (pc := 12) (tgt := 27) hC1 dL_ahead_12 (by decide) ?_
    refine aw_iconst (pc := 27) (v := 0) hC1 dL_ahead_27 ic0 ?_
    exact aw_iret hC1 dL_ahead_28
  · skip
    by_cases h3 : i = 3
    · skip
      subst h3
      refine Or.inr ⟨15, ⟨[], ⟨0, 12, 15, 24⟩, [⟨0, 12, 19, 13⟩, ⟨0, 12, 23, 26⟩], "java/lang/IndexOutOfBoundsException", rfl, ht, (fun z hz => absurd hz List.not_mem_nil), rfl, by decide, kw873, kca3, rfl⟩, fun q => ?_⟩
      refine aw_eq (E' := some (1, μ3)) rfl ?_
      refine aw_astore (pc := 15) hC1 dL_ahead_15 rfl (by decide) ?_
      refine aw_iconst (pc := 17) (v := 1) hC1 dL_ahead_17 ic1 ?_
      exact aw_iret hC1 dL_ahead_18
    by_cases h1 : i = 1
    · skip
      subst h1
      refine Or.inr ⟨19, ⟨[⟨0, 12, 15, 24⟩], ⟨0, 12, 19, 13⟩, [⟨0, 12, 23, 26⟩], "java/lang/IllegalArgumentException", rfl, ht, (by intro z hz; simp only [List.mem_cons, List.not_mem_nil, or_false] at hz; rcases hz with rfl; exact Or.inr ⟨by decide, _, kw873, by decide⟩), rfl, by decide, kw580, kca1, rfl⟩, fun q => ?_⟩
      refine aw_eq (E' := some (2, μ3)) rfl ?_
      refine aw_astore (pc := 19) hC1 dL_ahead_19 rfl (by decide) ?_
      refine aw_iconst (pc := 21) (v := 2) hC1 dL_ahead_21 ic2 ?_
      exact aw_iret hC1 dL_ahead_22
    by_cases h4 : i = 4
    · skip
      subst h4
      refine Or.inr ⟨23, ⟨[⟨0, 12, 15, 24⟩, ⟨0, 12, 19, 13⟩], ⟨0, 12, 23, 26⟩, [], "java/util/NoSuchElementException", rfl, ht, (by intro z hz; simp only [List.mem_cons, List.not_mem_nil, or_false] at hz; rcases hz with rfl | rfl <;> first | exact Or.inr ⟨by decide, _, kw873, by decide⟩ | exact Or.inr ⟨by decide, _, kw580, by decide⟩), rfl, by decide, kw874, kca4, rfl⟩, fun q => ?_⟩
      refine aw_eq (E' := some (3, μ3)) rfl ?_
      refine aw_astore (pc := 23) hC1 dL_ahead_23 rfl (by decide) ?_
      refine aw_iconst (pc := 25) (v := 3) hC1 dL_ahead_25 ic3 ?_
      exact aw_iret hC1 dL_ahead_26
    left
    have h0 : ¬ i = 0 := fun e => hi (by rw [e]; rfl)
    exact (if_neg h0).trans ((if_neg h3).trans ((if_neg h1).trans ((if_neg h4).trans (rfl))))
theorem dL_saturdays_0 : decode cL_saturdays 0 = .ok (.aload_n 2, 1) := by decide +kernel
theorem dL_saturdays_1 : decode cL_saturdays 1 = .ok (.iconst 0, 1) := by decide +kernel
theorem dL_saturdays_2 : decode cL_saturdays 2 = .ok (.aload_n 0, 1) := by decide +kernel
theorem dL_saturdays_3 : decode cL_saturdays 3 = .ok (.iload_n 1, 1) := by decide +kernel
theorem dL_saturdays_4 : decode cL_saturdays 4 = .ok (.invokevirtual 76, 3) := by decide +kernel
theorem dL_saturdays_7 : decode cL_saturdays 7 = .ok (.i2l, 1) := by decide +kernel
theorem dL_saturdays_8 : decode cL_saturdays 8 = .ok (.lastore, 1) := by decide +kernel
theorem dL_saturdays_9 : decode cL_saturdays 9 = .ok (.goto 6, 3) := by decide +kernel
theorem dL_saturdays_12 : decode cL_saturdays 12 = .ok (.astore_n 3, 1) := by decide +kernel
theorem dL_saturdays_13 : decode cL_saturdays 13 = .ok (.iconst 1, 1) := by decide +kernel
theorem dL_saturdays_14 : decode cL_saturdays 14 = .ok (.ireturn, 1) := by decide +kernel
theorem dL_saturdays_15 : decode cL_saturdays 15 = .ok (.iconst 0, 1) := by decide +kernel
theorem dL_saturdays_16 : decode cL_saturdays 16 = .ok (.ireturn, 1) := by decide +kernel
def f_L_saturdays (μ : Mem) (a2 : Int32) : Option (Int32 × Mem) := (f_X9_saturdays μ a2).bind fun (q1 : Nat × Int32 × Mem) => if q1.1 = 0 then (ix 0 1 (nm (upm q1.2.2 0 22 (Int32.toNatClampNeg 0) q1.2.1) fun (μ4 : Mem) => some (0, μ4))) else if q1.1 = 1 then (some (1, q1.2.2)) else none
set_option maxHeartbeats 4000000 in
set_option maxRecDepth 100000 in
theorem c_L_saturdays (G : GG) (l : Launch) (hl0 : l.stackTraces = false) (μ : Mem) (a2 : Int32) : CHL G l yL_saturdays (.codeWith yL_saturdays cL_saturdays 4 (some .int) [(0, 9, 12, 13)]) 6 [.ref (gad G 0 0), .int a2, .ref (gad G 0 22)] μ (f_L_saturdays μ a2) := by
  refine CHL.of (own := "SaturdayKeepLaw") (L0 := [some (.ref (gad G 0 0)), some (.int a2), some (.ref (gad G 0 22)), none]) rfl rfl rfl (Nat.le_of_ble_eq_true rfl) (fun C hl hcs ht hC hC1 => ?_)
  subst hl
  delta f_L_saturdays
  refine aw_aload_n (pc := 0) (i := 2) hC dL_saturdays_0 rfl rfl ?_
  refine aw_iconst (pc := 1) (v := 0) hC dL_saturdays_1 ic0 ?_
  refine aw_aload_n (pc := 2) (i := 0) hC dL_saturdays_2 rfl rfl ?_
  refine aw_iload_n (pc := 3) (i := 1) hC dL_saturdays_3 rfl rfl ?_
  refine aw_callVX (pc := 4) (As := [.int a2]) hC hcs mb_X9_saturdays kw1121 (by decide) (c_X9_saturdays G C.2.1 hl0 μ a2) (v0 (j := 0) (by decide)) rfl rfl rfl rfl (Nat.le_of_ble_eq_true rfl) dL_saturdays_4 (fun x2 μ3 => ?_) (fun i x2 μ3 hi => ?_)
  · skip
    refine aw_eq (E' := ix 0 1 (nm (upm μ3 0 22 (Int32.toNatClampNeg 0) x2) fun (μ4 : Mem) => some (0, μ4))) rfl ?_
    refine aw_i2l (pc := 7) hC1 dL_saturdays_7 ?_
    refine aw_lastoreN (pc := 8) (w := x2) hC1 rfl dL_saturdays_8 (fun μ4 => ?_)
    refine aw_goto (pc := 9) (tgt := 15) hC1 dL_saturdays_9 (by decide) ?_
    refine aw_iconst (pc := 15) (v := 0) hC1 dL_saturdays_15 ic0 ?_
    exact aw_iret hC1 dL_saturdays_16
  · skip
    by_cases h1 : i = 1
    · skip
      subst h1
      refine Or.inr ⟨12, ⟨[], ⟨0, 9, 12, 13⟩, [], "java/lang/IllegalArgumentException", rfl, ht, (fun z hz => absurd hz List.not_mem_nil), rfl, by decide, kw580, kca1, rfl⟩, fun q => ?_⟩
      refine aw_eq (E' := some (1, μ3)) rfl ?_
      refine aw_astore_n (pc := 12) (i := 3) hC1 dL_saturdays_12 rfl rfl (by decide) ?_
      refine aw_iconst (pc := 13) (v := 1) hC1 dL_saturdays_13 ic1 ?_
      exact aw_iret hC1 dL_saturdays_14
    left
    have h0 : ¬ i = 0 := fun e => hi (by rw [e]; rfl)
    exact (if_neg h0).trans ((if_neg h1).trans (rfl))
theorem dL_first_0 : decode cL_first 0 = .ok (.aload_n 3, 1) := by decide +kernel
theorem dL_first_1 : decode cL_first 1 = .ok (.iconst 0, 1) := by decide +kernel
theorem dL_first_2 : decode cL_first 2 = .ok (.aload_n 0, 1) := by decide +kernel
theorem dL_first_3 : decode cL_first 3 = .ok (.iload_n 1, 1) := by decide +kernel
theorem dL_first_4 : decode cL_first 4 = .ok (.iload_n 2, 1) := by decide +kernel
theorem dL_first_5 : decode cL_first 5 = .ok (.invokevirtual 79, 3) := by decide +kernel
theorem dL_first_8 : decode cL_first 8 = .ok (.i2l, 1) := by decide +kernel
theorem dL_first_9 : decode cL_first 9 = .ok (.lastore, 1) := by decide +kernel
theorem dL_first_10 : decode cL_first 10 = .ok (.goto 11, 3) := by decide +kernel
theorem dL_first_13 : decode cL_first 13 = .ok (.astore 4, 2) := by decide +kernel
theorem dL_first_15 : decode cL_first 15 = .ok (.iconst 1, 1) := by decide +kernel
theorem dL_first_16 : decode cL_first 16 = .ok (.ireturn, 1) := by decide +kernel
theorem dL_first_17 : decode cL_first 17 = .ok (.astore 4, 2) := by decide +kernel
theorem dL_first_19 : decode cL_first 19 = .ok (.iconst 2, 1) := by decide +kernel
theorem dL_first_20 : decode cL_first 20 = .ok (.ireturn, 1) := by decide +kernel
theorem dL_first_21 : decode cL_first 21 = .ok (.iconst 0, 1) := by decide +kernel
theorem dL_first_22 : decode cL_first 22 = .ok (.ireturn, 1) := by decide +kernel
def f_L_first (μ : Mem) (a2 : Int32) (a3 : Int32) : Option (Int32 × Mem) := (f_X9_first μ a2 a3).bind fun (q1 : Nat × Int32 × Mem) => if q1.1 = 0 then (ix 0 1 (nm (upm q1.2.2 0 22 (Int32.toNatClampNeg 0) q1.2.1) fun (μ4 : Mem) => some (0, μ4))) else if q1.1 = 3 then (some (1, q1.2.2)) else if q1.1 = 1 then (some (2, q1.2.2)) else none
set_option maxHeartbeats 4000000 in
set_option maxRecDepth 100000 in
theorem c_L_first (G : GG) (l : Launch) (hl0 : l.stackTraces = false) (μ : Mem) (a2 : Int32) (a3 : Int32) : CHL G l yL_first (.codeWith yL_first cL_first 5 (some .int) [(0, 10, 13, 24), (0, 10, 17, 13)]) 7 [.ref (gad G 0 0), .int a2, .int a3, .ref (gad G 0 22)] μ (f_L_first μ a2 a3) := by
  refine CHL.of (own := "SaturdayKeepLaw") (L0 := [some (.ref (gad G 0 0)), some (.int a2), some (.int a3), some (.ref (gad G 0 22)), none]) rfl rfl rfl (Nat.le_of_ble_eq_true rfl) (fun C hl hcs ht hC hC1 => ?_)
  subst hl
  delta f_L_first
  refine aw_aload_n (pc := 0) (i := 3) hC dL_first_0 rfl rfl ?_
  refine aw_iconst (pc := 1) (v := 0) hC dL_first_1 ic0 ?_
  refine aw_aload_n (pc := 2) (i := 0) hC dL_first_2 rfl rfl ?_
  refine aw_iload_n (pc := 3) (i := 1) hC dL_first_3 rfl rfl ?_
  refine aw_iload_n (pc := 4) (i := 2) hC dL_first_4 rfl rfl ?_
  refine aw_callVX (pc := 5) (As := [.int a2, .int a3]) hC hcs mb_X9_first kw1128 (by decide) (c_X9_first G C.2.1 hl0 μ a2 a3) (v0 (j := 0) (by decide)) rfl rfl rfl rfl (Nat.le_of_ble_eq_true rfl) dL_first_5 (fun x2 μ3 => ?_) (fun i x2 μ3 hi => ?_)
  · skip
    refine aw_eq (E' := ix 0 1 (nm (upm μ3 0 22 (Int32.toNatClampNeg 0) x2) fun (μ4 : Mem) => some (0, μ4))) rfl ?_
    refine aw_i2l (pc := 8) hC1 dL_first_8 ?_
    refine aw_lastoreN (pc := 9) (w := x2) hC1 rfl dL_first_9 (fun μ4 => ?_)
    refine aw_goto (pc := 10) (tgt := 21) hC1 dL_first_10 (by decide) ?_
    refine aw_iconst (pc := 21) (v := 0) hC1 dL_first_21 ic0 ?_
    exact aw_iret hC1 dL_first_22
  · skip
    by_cases h3 : i = 3
    · skip
      subst h3
      refine Or.inr ⟨13, ⟨[], ⟨0, 10, 13, 24⟩, [⟨0, 10, 17, 13⟩], "java/lang/IndexOutOfBoundsException", rfl, ht, (fun z hz => absurd hz List.not_mem_nil), rfl, by decide, kw873, kca3, rfl⟩, fun q => ?_⟩
      refine aw_eq (E' := some (1, μ3)) rfl ?_
      refine aw_astore (pc := 13) hC1 dL_first_13 rfl (by decide) ?_
      refine aw_iconst (pc := 15) (v := 1) hC1 dL_first_15 ic1 ?_
      exact aw_iret hC1 dL_first_16
    by_cases h1 : i = 1
    · skip
      subst h1
      refine Or.inr ⟨17, ⟨[⟨0, 10, 13, 24⟩], ⟨0, 10, 17, 13⟩, [], "java/lang/IllegalArgumentException", rfl, ht, (by intro z hz; simp only [List.mem_cons, List.not_mem_nil, or_false] at hz; rcases hz with rfl; exact Or.inr ⟨by decide, _, kw873, by decide⟩), rfl, by decide, kw580, kca1, rfl⟩, fun q => ?_⟩
      refine aw_eq (E' := some (2, μ3)) rfl ?_
      refine aw_astore (pc := 17) hC1 dL_first_17 rfl (by decide) ?_
      refine aw_iconst (pc := 19) (v := 2) hC1 dL_first_19 ic2 ?_
      exact aw_iret hC1 dL_first_20
    left
    have h0 : ¬ i = 0 := fun e => hi (by rw [e]; rfl)
    exact (if_neg h0).trans ((if_neg h3).trans ((if_neg h1).trans (rfl)))
theorem dL_stand_0 : decode cL_stand 0 = .ok (.aload_n 2, 1) := by decide +kernel
theorem dL_stand_1 : decode cL_stand 1 = .ok (.iconst 0, 1) := by decide +kernel
theorem dL_stand_2 : decode cL_stand 2 = .ok (.aload_n 0, 1) := by decide +kernel
theorem dL_stand_3 : decode cL_stand 3 = .ok (.iload_n 1, 1) := by decide +kernel
theorem dL_stand_4 : decode cL_stand 4 = .ok (.invokevirtual 82, 3) := by decide +kernel
theorem dL_stand_7 : decode cL_stand 7 = .ok (.i2l, 1) := by decide +kernel
theorem dL_stand_8 : decode cL_stand 8 = .ok (.lastore, 1) := by decide +kernel
theorem dL_stand_9 : decode cL_stand 9 = .ok (.goto 6, 3) := by decide +kernel
theorem dL_stand_12 : decode cL_stand 12 = .ok (.astore_n 3, 1) := by decide +kernel
theorem dL_stand_13 : decode cL_stand 13 = .ok (.iconst 1, 1) := by decide +kernel
theorem dL_stand_14 : decode cL_stand 14 = .ok (.ireturn, 1) := by decide +kernel
theorem dL_stand_15 : decode cL_stand 15 = .ok (.iconst 0, 1) := by decide +kernel
theorem dL_stand_16 : decode cL_stand 16 = .ok (.ireturn, 1) := by decide +kernel
def f_L_stand (μ : Mem) (a2 : Int32) : Option (Int32 × Mem) := (f_X9_stand μ a2).bind fun (q1 : Nat × Int32 × Mem) => if q1.1 = 0 then (ix 0 1 (nm (upm q1.2.2 0 22 (Int32.toNatClampNeg 0) q1.2.1) fun (μ4 : Mem) => some (0, μ4))) else if q1.1 = 1 then (some (1, q1.2.2)) else none
set_option maxHeartbeats 4000000 in
set_option maxRecDepth 100000 in
theorem c_L_stand (G : GG) (l : Launch) (hl0 : l.stackTraces = false) (μ : Mem) (a2 : Int32) : CHL G l yL_stand (.codeWith yL_stand cL_stand 4 (some .int) [(0, 9, 12, 13)]) 6 [.ref (gad G 0 0), .int a2, .ref (gad G 0 22)] μ (f_L_stand μ a2) := by
  refine CHL.of (own := "SaturdayKeepLaw") (L0 := [some (.ref (gad G 0 0)), some (.int a2), some (.ref (gad G 0 22)), none]) rfl rfl rfl (Nat.le_of_ble_eq_true rfl) (fun C hl hcs ht hC hC1 => ?_)
  subst hl
  delta f_L_stand
  refine aw_aload_n (pc := 0) (i := 2) hC dL_stand_0 rfl rfl ?_
  refine aw_iconst (pc := 1) (v := 0) hC dL_stand_1 ic0 ?_
  refine aw_aload_n (pc := 2) (i := 0) hC dL_stand_2 rfl rfl ?_
  refine aw_iload_n (pc := 3) (i := 1) hC dL_stand_3 rfl rfl ?_
  refine aw_callVX (pc := 4) (As := [.int a2]) hC hcs mb_X9_stand kw1136 (by decide) (c_X9_stand G C.2.1 hl0 μ a2) (v0 (j := 0) (by decide)) rfl rfl rfl rfl (Nat.le_of_ble_eq_true rfl) dL_stand_4 (fun x2 μ3 => ?_) (fun i x2 μ3 hi => ?_)
  · skip
    refine aw_eq (E' := ix 0 1 (nm (upm μ3 0 22 (Int32.toNatClampNeg 0) x2) fun (μ4 : Mem) => some (0, μ4))) rfl ?_
    refine aw_i2l (pc := 7) hC1 dL_stand_7 ?_
    refine aw_lastoreN (pc := 8) (w := x2) hC1 rfl dL_stand_8 (fun μ4 => ?_)
    refine aw_goto (pc := 9) (tgt := 15) hC1 dL_stand_9 (by decide) ?_
    refine aw_iconst (pc := 15) (v := 0) hC1 dL_stand_15 ic0 ?_
    exact aw_iret hC1 dL_stand_16
  · skip
    by_cases h1 : i = 1
    · skip
      subst h1
      refine Or.inr ⟨12, ⟨[], ⟨0, 9, 12, 13⟩, [], "java/lang/IllegalArgumentException", rfl, ht, (fun z hz => absurd hz List.not_mem_nil), rfl, by decide, kw580, kca1, rfl⟩, fun q => ?_⟩
      refine aw_eq (E' := some (1, μ3)) rfl ?_
      refine aw_astore_n (pc := 12) (i := 3) hC1 dL_stand_12 rfl rfl (by decide) ?_
      refine aw_iconst (pc := 13) (v := 1) hC1 dL_stand_13 ic1 ?_
      exact aw_iret hC1 dL_stand_14
    left
    have h0 : ¬ i = 0 := fun e => hi (by rw [e]; rfl)
    exact (if_neg h0).trans ((if_neg h1).trans (rfl))
theorem dL_sent_0 : decode cL_sent 0 = .ok (.aload_n 2, 1) := by decide +kernel
theorem dL_sent_1 : decode cL_sent 1 = .ok (.iconst 0, 1) := by decide +kernel
theorem dL_sent_2 : decode cL_sent 2 = .ok (.aload_n 0, 1) := by decide +kernel
theorem dL_sent_3 : decode cL_sent 3 = .ok (.iload_n 1, 1) := by decide +kernel
theorem dL_sent_4 : decode cL_sent 4 = .ok (.invokevirtual 85, 3) := by decide +kernel
theorem dL_sent_7 : decode cL_sent 7 = .ok (.i2l, 1) := by decide +kernel
theorem dL_sent_8 : decode cL_sent 8 = .ok (.lastore, 1) := by decide +kernel
theorem dL_sent_9 : decode cL_sent 9 = .ok (.goto 6, 3) := by decide +kernel
theorem dL_sent_12 : decode cL_sent 12 = .ok (.astore_n 3, 1) := by decide +kernel
theorem dL_sent_13 : decode cL_sent 13 = .ok (.iconst 1, 1) := by decide +kernel
theorem dL_sent_14 : decode cL_sent 14 = .ok (.ireturn, 1) := by decide +kernel
theorem dL_sent_15 : decode cL_sent 15 = .ok (.iconst 0, 1) := by decide +kernel
theorem dL_sent_16 : decode cL_sent 16 = .ok (.ireturn, 1) := by decide +kernel
def f_L_sent (μ : Mem) (a2 : Int32) : Option (Int32 × Mem) := (f_X9_sent μ a2).bind fun (q1 : Nat × Int32 × Mem) => if q1.1 = 0 then (ix 0 1 (nm (upm q1.2.2 0 22 (Int32.toNatClampNeg 0) q1.2.1) fun (μ4 : Mem) => some (0, μ4))) else if q1.1 = 1 then (some (1, q1.2.2)) else none
set_option maxHeartbeats 4000000 in
set_option maxRecDepth 100000 in
theorem c_L_sent (G : GG) (l : Launch) (hl0 : l.stackTraces = false) (μ : Mem) (a2 : Int32) : CHL G l yL_sent (.codeWith yL_sent cL_sent 4 (some .int) [(0, 9, 12, 13)]) 6 [.ref (gad G 0 0), .int a2, .ref (gad G 0 22)] μ (f_L_sent μ a2) := by
  refine CHL.of (own := "SaturdayKeepLaw") (L0 := [some (.ref (gad G 0 0)), some (.int a2), some (.ref (gad G 0 22)), none]) rfl rfl rfl (Nat.le_of_ble_eq_true rfl) (fun C hl hcs ht hC hC1 => ?_)
  subst hl
  delta f_L_sent
  refine aw_aload_n (pc := 0) (i := 2) hC dL_sent_0 rfl rfl ?_
  refine aw_iconst (pc := 1) (v := 0) hC dL_sent_1 ic0 ?_
  refine aw_aload_n (pc := 2) (i := 0) hC dL_sent_2 rfl rfl ?_
  refine aw_iload_n (pc := 3) (i := 1) hC dL_sent_3 rfl rfl ?_
  refine aw_callVX (pc := 4) (As := [.int a2]) hC hcs mb_X9_sent kw1147 (by decide) (c_X9_sent G C.2.1 hl0 μ a2) (v0 (j := 0) (by decide)) rfl rfl rfl rfl (Nat.le_of_ble_eq_true rfl) dL_sent_4 (fun x2 μ3 => ?_) (fun i x2 μ3 hi => ?_)
  · skip
    refine aw_eq (E' := ix 0 1 (nm (upm μ3 0 22 (Int32.toNatClampNeg 0) x2) fun (μ4 : Mem) => some (0, μ4))) rfl ?_
    refine aw_i2l (pc := 7) hC1 dL_sent_7 ?_
    refine aw_lastoreN (pc := 8) (w := x2) hC1 rfl dL_sent_8 (fun μ4 => ?_)
    refine aw_goto (pc := 9) (tgt := 15) hC1 dL_sent_9 (by decide) ?_
    refine aw_iconst (pc := 15) (v := 0) hC1 dL_sent_15 ic0 ?_
    exact aw_iret hC1 dL_sent_16
  · skip
    by_cases h1 : i = 1
    · skip
      subst h1
      refine Or.inr ⟨12, ⟨[], ⟨0, 9, 12, 13⟩, [], "java/lang/IllegalArgumentException", rfl, ht, (fun z hz => absurd hz List.not_mem_nil), rfl, by decide, kw580, kca1, rfl⟩, fun q => ?_⟩
      refine aw_eq (E' := some (1, μ3)) rfl ?_
      refine aw_astore_n (pc := 12) (i := 3) hC1 dL_sent_12 rfl rfl (by decide) ?_
      refine aw_iconst (pc := 13) (v := 1) hC1 dL_sent_13 ic1 ?_
      exact aw_iret hC1 dL_sent_14
    left
    have h0 : ¬ i = 0 := fun e => hi (by rw [e]; rfl)
    exact (if_neg h0).trans ((if_neg h1).trans (rfl))
theorem dL_rests_0 : decode cL_rests 0 = .ok (.aload_n 2, 1) := by decide +kernel
theorem dL_rests_1 : decode cL_rests 1 = .ok (.iconst 0, 1) := by decide +kernel
theorem dL_rests_2 : decode cL_rests 2 = .ok (.aload_n 0, 1) := by decide +kernel
theorem dL_rests_3 : decode cL_rests 3 = .ok (.iload_n 1, 1) := by decide +kernel
theorem dL_rests_4 : decode cL_rests 4 = .ok (.invokevirtual 88, 3) := by decide +kernel
theorem dL_rests_7 : decode cL_rests 7 = .ok (.i2l, 1) := by decide +kernel
theorem dL_rests_8 : decode cL_rests 8 = .ok (.lastore, 1) := by decide +kernel
theorem dL_rests_9 : decode cL_rests 9 = .ok (.goto 6, 3) := by decide +kernel
theorem dL_rests_12 : decode cL_rests 12 = .ok (.astore_n 3, 1) := by decide +kernel
theorem dL_rests_13 : decode cL_rests 13 = .ok (.iconst 1, 1) := by decide +kernel
theorem dL_rests_14 : decode cL_rests 14 = .ok (.ireturn, 1) := by decide +kernel
theorem dL_rests_15 : decode cL_rests 15 = .ok (.iconst 0, 1) := by decide +kernel
theorem dL_rests_16 : decode cL_rests 16 = .ok (.ireturn, 1) := by decide +kernel
def f_L_rests (μ : Mem) (a2 : Int32) : Option (Int32 × Mem) := (f_X9_rests μ a2).bind fun (q1 : Nat × Int32 × Mem) => if q1.1 = 0 then (ix 0 1 (nm (upm q1.2.2 0 22 (Int32.toNatClampNeg 0) q1.2.1) fun (μ4 : Mem) => some (0, μ4))) else if q1.1 = 3 then (some (1, q1.2.2)) else none
set_option maxHeartbeats 4000000 in
set_option maxRecDepth 100000 in
theorem c_L_rests (G : GG) (l : Launch) (hl0 : l.stackTraces = false) (μ : Mem) (a2 : Int32) : CHL G l yL_rests (.codeWith yL_rests cL_rests 4 (some .int) [(0, 9, 12, 24)]) 6 [.ref (gad G 0 0), .int a2, .ref (gad G 0 22)] μ (f_L_rests μ a2) := by
  refine CHL.of (own := "SaturdayKeepLaw") (L0 := [some (.ref (gad G 0 0)), some (.int a2), some (.ref (gad G 0 22)), none]) rfl rfl rfl (Nat.le_of_ble_eq_true rfl) (fun C hl hcs ht hC hC1 => ?_)
  subst hl
  delta f_L_rests
  refine aw_aload_n (pc := 0) (i := 2) hC dL_rests_0 rfl rfl ?_
  refine aw_iconst (pc := 1) (v := 0) hC dL_rests_1 ic0 ?_
  refine aw_aload_n (pc := 2) (i := 0) hC dL_rests_2 rfl rfl ?_
  refine aw_iload_n (pc := 3) (i := 1) hC dL_rests_3 rfl rfl ?_
  refine aw_callVX (pc := 4) (As := [.int a2]) hC hcs mb_X9_rests kw1155 (by decide) (c_X9_rests G C.2.1 hl0 μ a2) (v0 (j := 0) (by decide)) rfl rfl rfl rfl (Nat.le_of_ble_eq_true rfl) dL_rests_4 (fun x2 μ3 => ?_) (fun i x2 μ3 hi => ?_)
  · skip
    refine aw_eq (E' := ix 0 1 (nm (upm μ3 0 22 (Int32.toNatClampNeg 0) x2) fun (μ4 : Mem) => some (0, μ4))) rfl ?_
    refine aw_i2l (pc := 7) hC1 dL_rests_7 ?_
    refine aw_lastoreN (pc := 8) (w := x2) hC1 rfl dL_rests_8 (fun μ4 => ?_)
    refine aw_goto (pc := 9) (tgt := 15) hC1 dL_rests_9 (by decide) ?_
    refine aw_iconst (pc := 15) (v := 0) hC1 dL_rests_15 ic0 ?_
    exact aw_iret hC1 dL_rests_16
  · skip
    by_cases h3 : i = 3
    · skip
      subst h3
      refine Or.inr ⟨12, ⟨[], ⟨0, 9, 12, 24⟩, [], "java/lang/IndexOutOfBoundsException", rfl, ht, (fun z hz => absurd hz List.not_mem_nil), rfl, by decide, kw873, kca3, rfl⟩, fun q => ?_⟩
      refine aw_eq (E' := some (1, μ3)) rfl ?_
      refine aw_astore_n (pc := 12) (i := 3) hC1 dL_rests_12 rfl rfl (by decide) ?_
      refine aw_iconst (pc := 13) (v := 1) hC1 dL_rests_13 ic1 ?_
      exact aw_iret hC1 dL_rests_14
    left
    have h0 : ¬ i = 0 := fun e => hi (by rw [e]; rfl)
    exact (if_neg h0).trans ((if_neg h3).trans (rfl))
theorem dL_shifts_0 : decode cL_shifts 0 = .ok (.aload_n 1, 1) := by decide +kernel
theorem dL_shifts_1 : decode cL_shifts 1 = .ok (.iconst 0, 1) := by decide +kernel
theorem dL_shifts_2 : decode cL_shifts 2 = .ok (.aload_n 0, 1) := by decide +kernel
theorem dL_shifts_3 : decode cL_shifts 3 = .ok (.invokevirtual 91, 3) := by decide +kernel
theorem dL_shifts_6 : decode cL_shifts 6 = .ok (.i2l, 1) := by decide +kernel
theorem dL_shifts_7 : decode cL_shifts 7 = .ok (.lastore, 1) := by decide +kernel
theorem dL_shifts_8 : decode cL_shifts 8 = .ok (.goto 6, 3) := by decide +kernel
theorem dL_shifts_11 : decode cL_shifts 11 = .ok (.astore_n 2, 1) := by decide +kernel
theorem dL_shifts_12 : decode cL_shifts 12 = .ok (.iconst 1, 1) := by decide +kernel
theorem dL_shifts_13 : decode cL_shifts 13 = .ok (.ireturn, 1) := by decide +kernel
theorem dL_shifts_14 : decode cL_shifts 14 = .ok (.iconst 0, 1) := by decide +kernel
theorem dL_shifts_15 : decode cL_shifts 15 = .ok (.ireturn, 1) := by decide +kernel
def f_L_shifts (μ : Mem) : Option (Int32 × Mem) := (f_X9_shifts μ).bind fun (q1 : Nat × Int32 × Mem) => if q1.1 = 0 then (ix 0 1 (nm (upm q1.2.2 0 22 (Int32.toNatClampNeg 0) q1.2.1) fun (μ4 : Mem) => some (0, μ4))) else if q1.1 = 1 then (some (1, q1.2.2)) else none
set_option maxHeartbeats 4000000 in
set_option maxRecDepth 100000 in
theorem c_L_shifts (G : GG) (l : Launch) (hl0 : l.stackTraces = false) (μ : Mem) : CHL G l yL_shifts (.codeWith yL_shifts cL_shifts 3 (some .int) [(0, 8, 11, 13)]) 6 [.ref (gad G 0 0), .ref (gad G 0 22)] μ (f_L_shifts μ ) := by
  refine CHL.of (own := "SaturdayKeepLaw") (L0 := [some (.ref (gad G 0 0)), some (.ref (gad G 0 22)), none]) rfl rfl rfl (Nat.le_of_ble_eq_true rfl) (fun C hl hcs ht hC hC1 => ?_)
  subst hl
  delta f_L_shifts
  refine aw_aload_n (pc := 0) (i := 1) hC dL_shifts_0 rfl rfl ?_
  refine aw_iconst (pc := 1) (v := 0) hC dL_shifts_1 ic0 ?_
  refine aw_aload_n (pc := 2) (i := 0) hC dL_shifts_2 rfl rfl ?_
  refine aw_callVX (pc := 3) (As := []) hC hcs mb_X9_shifts kw1168 (by decide) (c_X9_shifts G C.2.1 hl0 μ ) (v0 (j := 0) (by decide)) rfl rfl rfl rfl (Nat.le_of_ble_eq_true rfl) dL_shifts_3 (fun x2 μ3 => ?_) (fun i x2 μ3 hi => ?_)
  · skip
    refine aw_eq (E' := ix 0 1 (nm (upm μ3 0 22 (Int32.toNatClampNeg 0) x2) fun (μ4 : Mem) => some (0, μ4))) rfl ?_
    refine aw_i2l (pc := 6) hC1 dL_shifts_6 ?_
    refine aw_lastoreN (pc := 7) (w := x2) hC1 rfl dL_shifts_7 (fun μ4 => ?_)
    refine aw_goto (pc := 8) (tgt := 14) hC1 dL_shifts_8 (by decide) ?_
    refine aw_iconst (pc := 14) (v := 0) hC1 dL_shifts_14 ic0 ?_
    exact aw_iret hC1 dL_shifts_15
  · skip
    by_cases h1 : i = 1
    · skip
      subst h1
      refine Or.inr ⟨11, ⟨[], ⟨0, 8, 11, 13⟩, [], "java/lang/IllegalArgumentException", rfl, ht, (fun z hz => absurd hz List.not_mem_nil), rfl, by decide, kw580, kca1, rfl⟩, fun q => ?_⟩
      refine aw_eq (E' := some (1, μ3)) rfl ?_
      refine aw_astore_n (pc := 11) (i := 2) hC1 dL_shifts_11 rfl rfl (by decide) ?_
      refine aw_iconst (pc := 12) (v := 1) hC1 dL_shifts_12 ic1 ?_
      exact aw_iret hC1 dL_shifts_13
    left
    have h0 : ¬ i = 0 := fun e => hi (by rw [e]; rfl)
    exact (if_neg h0).trans ((if_neg h1).trans (rfl))
theorem dL_ask_0 : decode cL_ask 0 = .ok (.aload_n 1, 1) := by decide +kernel
theorem dL_ask_1 : decode cL_ask 1 = .ok (.iconst 0, 1) := by decide +kernel
theorem dL_ask_2 : decode cL_ask 2 = .ok (.aload_n 0, 1) := by decide +kernel
theorem dL_ask_3 : decode cL_ask 3 = .ok (.invokevirtual 94, 3) := by decide +kernel
theorem dL_ask_6 : decode cL_ask 6 = .ok (.i2l, 1) := by decide +kernel
theorem dL_ask_7 : decode cL_ask 7 = .ok (.lastore, 1) := by decide +kernel
theorem dL_ask_8 : decode cL_ask 8 = .ok (.goto 6, 3) := by decide +kernel
theorem dL_ask_11 : decode cL_ask 11 = .ok (.astore_n 2, 1) := by decide +kernel
theorem dL_ask_12 : decode cL_ask 12 = .ok (.iconst 1, 1) := by decide +kernel
theorem dL_ask_13 : decode cL_ask 13 = .ok (.ireturn, 1) := by decide +kernel
theorem dL_ask_14 : decode cL_ask 14 = .ok (.iconst 0, 1) := by decide +kernel
theorem dL_ask_15 : decode cL_ask 15 = .ok (.ireturn, 1) := by decide +kernel
def f_L_ask (μ : Mem) : Option (Int32 × Mem) := (f_X9_ask μ).bind fun (q1 : Nat × Int32 × Mem) => if q1.1 = 0 then (ix 0 1 (nm (upm q1.2.2 0 22 (Int32.toNatClampNeg 0) q1.2.1) fun (μ4 : Mem) => some (0, μ4))) else if q1.1 = 1 then (some (1, q1.2.2)) else none
set_option maxHeartbeats 4000000 in
set_option maxRecDepth 100000 in
theorem c_L_ask (G : GG) (l : Launch) (hl0 : l.stackTraces = false) (μ : Mem) : CHL G l yL_ask (.codeWith yL_ask cL_ask 3 (some .int) [(0, 8, 11, 13)]) 6 [.ref (gad G 0 0), .ref (gad G 0 22)] μ (f_L_ask μ ) := by
  refine CHL.of (own := "SaturdayKeepLaw") (L0 := [some (.ref (gad G 0 0)), some (.ref (gad G 0 22)), none]) rfl rfl rfl (Nat.le_of_ble_eq_true rfl) (fun C hl hcs ht hC hC1 => ?_)
  subst hl
  delta f_L_ask
  refine aw_aload_n (pc := 0) (i := 1) hC dL_ask_0 rfl rfl ?_
  refine aw_iconst (pc := 1) (v := 0) hC dL_ask_1 ic0 ?_
  refine aw_aload_n (pc := 2) (i := 0) hC dL_ask_2 rfl rfl ?_
  refine aw_callVX (pc := 3) (As := []) hC hcs mb_X9_ask kw1186 (by decide) (c_X9_ask G C.2.1 hl0 μ ) (v0 (j := 0) (by decide)) rfl rfl rfl rfl (Nat.le_of_ble_eq_true rfl) dL_ask_3 (fun x2 μ3 => ?_) (fun i x2 μ3 hi => ?_)
  · skip
    refine aw_eq (E' := ix 0 1 (nm (upm μ3 0 22 (Int32.toNatClampNeg 0) x2) fun (μ4 : Mem) => some (0, μ4))) rfl ?_
    refine aw_i2l (pc := 6) hC1 dL_ask_6 ?_
    refine aw_lastoreN (pc := 7) (w := x2) hC1 rfl dL_ask_7 (fun μ4 => ?_)
    refine aw_goto (pc := 8) (tgt := 14) hC1 dL_ask_8 (by decide) ?_
    refine aw_iconst (pc := 14) (v := 0) hC1 dL_ask_14 ic0 ?_
    exact aw_iret hC1 dL_ask_15
  · skip
    by_cases h1 : i = 1
    · skip
      subst h1
      refine Or.inr ⟨11, ⟨[], ⟨0, 8, 11, 13⟩, [], "java/lang/IllegalArgumentException", rfl, ht, (fun z hz => absurd hz List.not_mem_nil), rfl, by decide, kw580, kca1, rfl⟩, fun q => ?_⟩
      refine aw_eq (E' := some (1, μ3)) rfl ?_
      refine aw_astore_n (pc := 11) (i := 2) hC1 dL_ask_11 rfl rfl (by decide) ?_
      refine aw_iconst (pc := 12) (v := 1) hC1 dL_ask_12 ic1 ?_
      exact aw_iret hC1 dL_ask_13
    left
    have h0 : ¬ i = 0 := fun e => hi (by rw [e]; rfl)
    exact (if_neg h0).trans ((if_neg h1).trans (rfl))
theorem dL_bored_0 : decode cL_bored 0 = .ok (.aload_n 2, 1) := by decide +kernel
theorem dL_bored_1 : decode cL_bored 1 = .ok (.iconst 0, 1) := by decide +kernel
theorem dL_bored_2 : decode cL_bored 2 = .ok (.aload_n 0, 1) := by decide +kernel
theorem dL_bored_3 : decode cL_bored 3 = .ok (.iload_n 1, 1) := by decide +kernel
theorem dL_bored_4 : decode cL_bored 4 = .ok (.invokevirtual 97, 3) := by decide +kernel
theorem dL_bored_7 : decode cL_bored 7 = .ok (.i2l, 1) := by decide +kernel
theorem dL_bored_8 : decode cL_bored 8 = .ok (.lastore, 1) := by decide +kernel
theorem dL_bored_9 : decode cL_bored 9 = .ok (.goto 6, 3) := by decide +kernel
theorem dL_bored_12 : decode cL_bored 12 = .ok (.astore_n 3, 1) := by decide +kernel
theorem dL_bored_13 : decode cL_bored 13 = .ok (.iconst 1, 1) := by decide +kernel
theorem dL_bored_14 : decode cL_bored 14 = .ok (.ireturn, 1) := by decide +kernel
theorem dL_bored_15 : decode cL_bored 15 = .ok (.iconst 0, 1) := by decide +kernel
theorem dL_bored_16 : decode cL_bored 16 = .ok (.ireturn, 1) := by decide +kernel
def f_L_bored (μ : Mem) (a2 : Int32) : Option (Int32 × Mem) := (f_X9_bored μ a2).bind fun (q1 : Nat × Int32 × Mem) => if q1.1 = 0 then (ix 0 1 (nm (upm q1.2.2 0 22 (Int32.toNatClampNeg 0) q1.2.1) fun (μ4 : Mem) => some (0, μ4))) else if q1.1 = 1 then (some (1, q1.2.2)) else none
set_option maxHeartbeats 4000000 in
set_option maxRecDepth 100000 in
theorem c_L_bored (G : GG) (l : Launch) (hl0 : l.stackTraces = false) (μ : Mem) (a2 : Int32) : CHL G l yL_bored (.codeWith yL_bored cL_bored 4 (some .int) [(0, 9, 12, 13)]) 6 [.ref (gad G 0 0), .int a2, .ref (gad G 0 22)] μ (f_L_bored μ a2) := by
  refine CHL.of (own := "SaturdayKeepLaw") (L0 := [some (.ref (gad G 0 0)), some (.int a2), some (.ref (gad G 0 22)), none]) rfl rfl rfl (Nat.le_of_ble_eq_true rfl) (fun C hl hcs ht hC hC1 => ?_)
  subst hl
  delta f_L_bored
  refine aw_aload_n (pc := 0) (i := 2) hC dL_bored_0 rfl rfl ?_
  refine aw_iconst (pc := 1) (v := 0) hC dL_bored_1 ic0 ?_
  refine aw_aload_n (pc := 2) (i := 0) hC dL_bored_2 rfl rfl ?_
  refine aw_iload_n (pc := 3) (i := 1) hC dL_bored_3 rfl rfl ?_
  refine aw_callVX (pc := 4) (As := [.int a2]) hC hcs mb_X9_bored kw1194 (by decide) (c_X9_bored G C.2.1 hl0 μ a2) (v0 (j := 0) (by decide)) rfl rfl rfl rfl (Nat.le_of_ble_eq_true rfl) dL_bored_4 (fun x2 μ3 => ?_) (fun i x2 μ3 hi => ?_)
  · skip
    refine aw_eq (E' := ix 0 1 (nm (upm μ3 0 22 (Int32.toNatClampNeg 0) x2) fun (μ4 : Mem) => some (0, μ4))) rfl ?_
    refine aw_i2l (pc := 7) hC1 dL_bored_7 ?_
    refine aw_lastoreN (pc := 8) (w := x2) hC1 rfl dL_bored_8 (fun μ4 => ?_)
    refine aw_goto (pc := 9) (tgt := 15) hC1 dL_bored_9 (by decide) ?_
    refine aw_iconst (pc := 15) (v := 0) hC1 dL_bored_15 ic0 ?_
    exact aw_iret hC1 dL_bored_16
  · skip
    by_cases h1 : i = 1
    · skip
      subst h1
      refine Or.inr ⟨12, ⟨[], ⟨0, 9, 12, 13⟩, [], "java/lang/IllegalArgumentException", rfl, ht, (fun z hz => absurd hz List.not_mem_nil), rfl, by decide, kw580, kca1, rfl⟩, fun q => ?_⟩
      refine aw_eq (E' := some (1, μ3)) rfl ?_
      refine aw_astore_n (pc := 12) (i := 3) hC1 dL_bored_12 rfl rfl (by decide) ?_
      refine aw_iconst (pc := 13) (v := 1) hC1 dL_bored_13 ic1 ?_
      exact aw_iret hC1 dL_bored_14
    left
    have h0 : ¬ i = 0 := fun e => hi (by rw [e]; rfl)
    exact (if_neg h0).trans ((if_neg h1).trans (rfl))
theorem dL_look_0 : decode cL_look 0 = .ok (.aload_n 1, 1) := by decide +kernel
theorem dL_look_1 : decode cL_look 1 = .ok (.iconst 0, 1) := by decide +kernel
theorem dL_look_2 : decode cL_look 2 = .ok (.aload_n 0, 1) := by decide +kernel
theorem dL_look_3 : decode cL_look 3 = .ok (.invokevirtual 101, 3) := by decide +kernel
theorem dL_look_6 : decode cL_look 6 = .ok (.i2l, 1) := by decide +kernel
theorem dL_look_7 : decode cL_look 7 = .ok (.lastore, 1) := by decide +kernel
theorem dL_look_8 : decode cL_look 8 = .ok (.goto 6, 3) := by decide +kernel
theorem dL_look_11 : decode cL_look 11 = .ok (.astore_n 2, 1) := by decide +kernel
theorem dL_look_12 : decode cL_look 12 = .ok (.iconst 1, 1) := by decide +kernel
theorem dL_look_13 : decode cL_look 13 = .ok (.ireturn, 1) := by decide +kernel
theorem dL_look_14 : decode cL_look 14 = .ok (.iconst 0, 1) := by decide +kernel
theorem dL_look_15 : decode cL_look 15 = .ok (.ireturn, 1) := by decide +kernel
def f_L_look (μ : Mem) : Option (Int32 × Mem) := (f_X9_look μ).bind fun (q1 : Nat × Int32 × Mem) => if q1.1 = 0 then (ix 0 1 (nm (upm q1.2.2 0 22 (Int32.toNatClampNeg 0) q1.2.1) fun (μ4 : Mem) => some (0, μ4))) else if q1.1 = 1 then (some (1, q1.2.2)) else none
set_option maxHeartbeats 4000000 in
set_option maxRecDepth 100000 in
theorem c_L_look (G : GG) (l : Launch) (hl0 : l.stackTraces = false) (μ : Mem) : CHL G l yL_look (.codeWith yL_look cL_look 3 (some .int) [(0, 8, 11, 13)]) 6 [.ref (gad G 0 0), .ref (gad G 0 22)] μ (f_L_look μ ) := by
  refine CHL.of (own := "SaturdayKeepLaw") (L0 := [some (.ref (gad G 0 0)), some (.ref (gad G 0 22)), none]) rfl rfl rfl (Nat.le_of_ble_eq_true rfl) (fun C hl hcs ht hC hC1 => ?_)
  subst hl
  delta f_L_look
  refine aw_aload_n (pc := 0) (i := 1) hC dL_look_0 rfl rfl ?_
  refine aw_iconst (pc := 1) (v := 0) hC dL_look_1 ic0 ?_
  refine aw_aload_n (pc := 2) (i := 0) hC dL_look_2 rfl rfl ?_
  refine aw_callVX (pc := 3) (As := []) hC hcs mb_X9_look kw1211 (by decide) (c_X9_look G C.2.1 hl0 μ ) (v0 (j := 0) (by decide)) rfl rfl rfl rfl (Nat.le_of_ble_eq_true rfl) dL_look_3 (fun x2 μ3 => ?_) (fun i x2 μ3 hi => ?_)
  · skip
    refine aw_eq (E' := ix 0 1 (nm (upm μ3 0 22 (Int32.toNatClampNeg 0) x2) fun (μ4 : Mem) => some (0, μ4))) rfl ?_
    refine aw_i2l (pc := 6) hC1 dL_look_6 ?_
    refine aw_lastoreN (pc := 7) (w := x2) hC1 rfl dL_look_7 (fun μ4 => ?_)
    refine aw_goto (pc := 8) (tgt := 14) hC1 dL_look_8 (by decide) ?_
    refine aw_iconst (pc := 14) (v := 0) hC1 dL_look_14 ic0 ?_
    exact aw_iret hC1 dL_look_15
  · skip
    by_cases h1 : i = 1
    · skip
      subst h1
      refine Or.inr ⟨11, ⟨[], ⟨0, 8, 11, 13⟩, [], "java/lang/IllegalArgumentException", rfl, ht, (fun z hz => absurd hz List.not_mem_nil), rfl, by decide, kw580, kca1, rfl⟩, fun q => ?_⟩
      refine aw_eq (E' := some (1, μ3)) rfl ?_
      refine aw_astore_n (pc := 11) (i := 2) hC1 dL_look_11 rfl rfl (by decide) ?_
      refine aw_iconst (pc := 12) (v := 1) hC1 dL_look_12 ic1 ?_
      exact aw_iret hC1 dL_look_13
    left
    have h0 : ¬ i = 0 := fun e => hi (by rw [e]; rfl)
    exact (if_neg h0).trans ((if_neg h1).trans (rfl))
theorem dL_line_0 : decode cL_line 0 = .ok (.aload_n 3, 1) := by decide +kernel
theorem dL_line_1 : decode cL_line 1 = .ok (.iconst 0, 1) := by decide +kernel
theorem dL_line_2 : decode cL_line 2 = .ok (.aload_n 0, 1) := by decide +kernel
theorem dL_line_3 : decode cL_line 3 = .ok (.iload_n 1, 1) := by decide +kernel
theorem dL_line_4 : decode cL_line 4 = .ok (.iload_n 2, 1) := by decide +kernel
theorem dL_line_5 : decode cL_line 5 = .ok (.invokevirtual 104, 3) := by decide +kernel
theorem dL_line_8 : decode cL_line 8 = .ok (.i2l, 1) := by decide +kernel
theorem dL_line_9 : decode cL_line 9 = .ok (.lastore, 1) := by decide +kernel
theorem dL_line_10 : decode cL_line 10 = .ok (.goto 7, 3) := by decide +kernel
theorem dL_line_13 : decode cL_line 13 = .ok (.astore 4, 2) := by decide +kernel
theorem dL_line_15 : decode cL_line 15 = .ok (.iconst 1, 1) := by decide +kernel
theorem dL_line_16 : decode cL_line 16 = .ok (.ireturn, 1) := by decide +kernel
theorem dL_line_17 : decode cL_line 17 = .ok (.iconst 0, 1) := by decide +kernel
theorem dL_line_18 : decode cL_line 18 = .ok (.ireturn, 1) := by decide +kernel
def f_L_line (μ : Mem) (a2 : Int32) (a3 : Int32) : Option (Int32 × Mem) := (f_X9_line μ a2 a3).bind fun (q1 : Nat × Int32 × Mem) => if q1.1 = 0 then (ix 0 1 (nm (upm q1.2.2 0 22 (Int32.toNatClampNeg 0) q1.2.1) fun (μ4 : Mem) => some (0, μ4))) else if q1.1 = 3 then (some (1, q1.2.2)) else none
set_option maxHeartbeats 4000000 in
set_option maxRecDepth 100000 in
theorem c_L_line (G : GG) (l : Launch) (hl0 : l.stackTraces = false) (μ : Mem) (a2 : Int32) (a3 : Int32) : CHL G l yL_line (.codeWith yL_line cL_line 5 (some .int) [(0, 10, 13, 24)]) 6 [.ref (gad G 0 0), .int a2, .int a3, .ref (gad G 0 22)] μ (f_L_line μ a2 a3) := by
  refine CHL.of (own := "SaturdayKeepLaw") (L0 := [some (.ref (gad G 0 0)), some (.int a2), some (.int a3), some (.ref (gad G 0 22)), none]) rfl rfl rfl (Nat.le_of_ble_eq_true rfl) (fun C hl hcs ht hC hC1 => ?_)
  subst hl
  delta f_L_line
  refine aw_aload_n (pc := 0) (i := 3) hC dL_line_0 rfl rfl ?_
  refine aw_iconst (pc := 1) (v := 0) hC dL_line_1 ic0 ?_
  refine aw_aload_n (pc := 2) (i := 0) hC dL_line_2 rfl rfl ?_
  refine aw_iload_n (pc := 3) (i := 1) hC dL_line_3 rfl rfl ?_
  refine aw_iload_n (pc := 4) (i := 2) hC dL_line_4 rfl rfl ?_
  refine aw_callVX (pc := 5) (As := [.int a2, .int a3]) hC hcs mb_X9_line kw1218 (by decide) (c_X9_line G C.2.1 hl0 μ a2 a3) (v0 (j := 0) (by decide)) rfl rfl rfl rfl (Nat.le_of_ble_eq_true rfl) dL_line_5 (fun x2 μ3 => ?_) (fun i x2 μ3 hi => ?_)
  · skip
    refine aw_eq (E' := ix 0 1 (nm (upm μ3 0 22 (Int32.toNatClampNeg 0) x2) fun (μ4 : Mem) => some (0, μ4))) rfl ?_
    refine aw_i2l (pc := 8) hC1 dL_line_8 ?_
    refine aw_lastoreN (pc := 9) (w := x2) hC1 rfl dL_line_9 (fun μ4 => ?_)
    refine aw_goto (pc := 10) (tgt := 17) hC1 dL_line_10 (by decide) ?_
    refine aw_iconst (pc := 17) (v := 0) hC1 dL_line_17 ic0 ?_
    exact aw_iret hC1 dL_line_18
  · skip
    by_cases h3 : i = 3
    · skip
      subst h3
      refine Or.inr ⟨13, ⟨[], ⟨0, 10, 13, 24⟩, [], "java/lang/IndexOutOfBoundsException", rfl, ht, (fun z hz => absurd hz List.not_mem_nil), rfl, by decide, kw873, kca3, rfl⟩, fun q => ?_⟩
      refine aw_eq (E' := some (1, μ3)) rfl ?_
      refine aw_astore (pc := 13) hC1 dL_line_13 rfl (by decide) ?_
      refine aw_iconst (pc := 15) (v := 1) hC1 dL_line_15 ic1 ?_
      exact aw_iret hC1 dL_line_16
    left
    have h0 : ¬ i = 0 := fun e => hi (by rw [e]; rfl)
    exact (if_neg h0).trans ((if_neg h3).trans (rfl))
theorem dL_pass_0 : decode cL_pass 0 = .ok (.aload_n 3, 1) := by decide +kernel
theorem dL_pass_1 : decode cL_pass 1 = .ok (.iconst 0, 1) := by decide +kernel
theorem dL_pass_2 : decode cL_pass 2 = .ok (.aload_n 0, 1) := by decide +kernel
theorem dL_pass_3 : decode cL_pass 3 = .ok (.iload_n 1, 1) := by decide +kernel
theorem dL_pass_4 : decode cL_pass 4 = .ok (.iload_n 2, 1) := by decide +kernel
theorem dL_pass_5 : decode cL_pass 5 = .ok (.invokevirtual 107, 3) := by decide +kernel
theorem dL_pass_8 : decode cL_pass 8 = .ok (.i2l, 1) := by decide +kernel
theorem dL_pass_9 : decode cL_pass 9 = .ok (.lastore, 1) := by decide +kernel
theorem dL_pass_10 : decode cL_pass 10 = .ok (.goto 7, 3) := by decide +kernel
theorem dL_pass_13 : decode cL_pass 13 = .ok (.astore 4, 2) := by decide +kernel
theorem dL_pass_15 : decode cL_pass 15 = .ok (.iconst 1, 1) := by decide +kernel
theorem dL_pass_16 : decode cL_pass 16 = .ok (.ireturn, 1) := by decide +kernel
theorem dL_pass_17 : decode cL_pass 17 = .ok (.iconst 0, 1) := by decide +kernel
theorem dL_pass_18 : decode cL_pass 18 = .ok (.ireturn, 1) := by decide +kernel
def f_L_pass (μ : Mem) (a2 : Int32) (a3 : Int32) : Option (Int32 × Mem) := (f_X9_pass μ a2 a3).bind fun (q1 : Nat × Int32 × Mem) => if q1.1 = 0 then (ix 0 1 (nm (upm q1.2.2 0 22 (Int32.toNatClampNeg 0) q1.2.1) fun (μ4 : Mem) => some (0, μ4))) else if q1.1 = 3 then (some (1, q1.2.2)) else none
set_option maxHeartbeats 4000000 in
set_option maxRecDepth 100000 in
theorem c_L_pass (G : GG) (l : Launch) (hl0 : l.stackTraces = false) (μ : Mem) (a2 : Int32) (a3 : Int32) : CHL G l yL_pass (.codeWith yL_pass cL_pass 5 (some .int) [(0, 10, 13, 24)]) 6 [.ref (gad G 0 0), .int a2, .int a3, .ref (gad G 0 22)] μ (f_L_pass μ a2 a3) := by
  refine CHL.of (own := "SaturdayKeepLaw") (L0 := [some (.ref (gad G 0 0)), some (.int a2), some (.int a3), some (.ref (gad G 0 22)), none]) rfl rfl rfl (Nat.le_of_ble_eq_true rfl) (fun C hl hcs ht hC hC1 => ?_)
  subst hl
  delta f_L_pass
  refine aw_aload_n (pc := 0) (i := 3) hC dL_pass_0 rfl rfl ?_
  refine aw_iconst (pc := 1) (v := 0) hC dL_pass_1 ic0 ?_
  refine aw_aload_n (pc := 2) (i := 0) hC dL_pass_2 rfl rfl ?_
  refine aw_iload_n (pc := 3) (i := 1) hC dL_pass_3 rfl rfl ?_
  refine aw_iload_n (pc := 4) (i := 2) hC dL_pass_4 rfl rfl ?_
  refine aw_callVX (pc := 5) (As := [.int a2, .int a3]) hC hcs mb_X9_pass kw1229 (by decide) (c_X9_pass G C.2.1 hl0 μ a2 a3) (v0 (j := 0) (by decide)) rfl rfl rfl rfl (Nat.le_of_ble_eq_true rfl) dL_pass_5 (fun x2 μ3 => ?_) (fun i x2 μ3 hi => ?_)
  · skip
    refine aw_eq (E' := ix 0 1 (nm (upm μ3 0 22 (Int32.toNatClampNeg 0) x2) fun (μ4 : Mem) => some (0, μ4))) rfl ?_
    refine aw_i2l (pc := 8) hC1 dL_pass_8 ?_
    refine aw_lastoreN (pc := 9) (w := x2) hC1 rfl dL_pass_9 (fun μ4 => ?_)
    refine aw_goto (pc := 10) (tgt := 17) hC1 dL_pass_10 (by decide) ?_
    refine aw_iconst (pc := 17) (v := 0) hC1 dL_pass_17 ic0 ?_
    exact aw_iret hC1 dL_pass_18
  · skip
    by_cases h3 : i = 3
    · skip
      subst h3
      refine Or.inr ⟨13, ⟨[], ⟨0, 10, 13, 24⟩, [], "java/lang/IndexOutOfBoundsException", rfl, ht, (fun z hz => absurd hz List.not_mem_nil), rfl, by decide, kw873, kca3, rfl⟩, fun q => ?_⟩
      refine aw_eq (E' := some (1, μ3)) rfl ?_
      refine aw_astore (pc := 13) hC1 dL_pass_13 rfl (by decide) ?_
      refine aw_iconst (pc := 15) (v := 1) hC1 dL_pass_15 ic1 ?_
      exact aw_iret hC1 dL_pass_16
    left
    have h0 : ¬ i = 0 := fun e => hi (by rw [e]; rfl)
    exact (if_neg h0).trans ((if_neg h3).trans (rfl))
theorem dL_agree_0 : decode cL_agree 0 = .ok (.aload_n 2, 1) := by decide +kernel
theorem dL_agree_1 : decode cL_agree 1 = .ok (.iconst 0, 1) := by decide +kernel
theorem dL_agree_2 : decode cL_agree 2 = .ok (.aload_n 0, 1) := by decide +kernel
theorem dL_agree_3 : decode cL_agree 3 = .ok (.iload_n 1, 1) := by decide +kernel
theorem dL_agree_4 : decode cL_agree 4 = .ok (.invokevirtual 110, 3) := by decide +kernel
theorem dL_agree_7 : decode cL_agree 7 = .ok (.i2l, 1) := by decide +kernel
theorem dL_agree_8 : decode cL_agree 8 = .ok (.lastore, 1) := by decide +kernel
theorem dL_agree_9 : decode cL_agree 9 = .ok (.goto 6, 3) := by decide +kernel
theorem dL_agree_12 : decode cL_agree 12 = .ok (.astore_n 3, 1) := by decide +kernel
theorem dL_agree_13 : decode cL_agree 13 = .ok (.iconst 1, 1) := by decide +kernel
theorem dL_agree_14 : decode cL_agree 14 = .ok (.ireturn, 1) := by decide +kernel
theorem dL_agree_15 : decode cL_agree 15 = .ok (.iconst 0, 1) := by decide +kernel
theorem dL_agree_16 : decode cL_agree 16 = .ok (.ireturn, 1) := by decide +kernel
def f_L_agree (μ : Mem) (a2 : Int32) : Option (Int32 × Mem) := (f_X9_agree μ a2).bind fun (q1 : Nat × Int32 × Mem) => if q1.1 = 0 then (ix 0 1 (nm (upm q1.2.2 0 22 (Int32.toNatClampNeg 0) q1.2.1) fun (μ4 : Mem) => some (0, μ4))) else if q1.1 = 1 then (some (1, q1.2.2)) else none
set_option maxHeartbeats 4000000 in
set_option maxRecDepth 100000 in
theorem c_L_agree (G : GG) (l : Launch) (hl0 : l.stackTraces = false) (μ : Mem) (a2 : Int32) : CHL G l yL_agree (.codeWith yL_agree cL_agree 4 (some .int) [(0, 9, 12, 13)]) 6 [.ref (gad G 0 0), .int a2, .ref (gad G 0 22)] μ (f_L_agree μ a2) := by
  refine CHL.of (own := "SaturdayKeepLaw") (L0 := [some (.ref (gad G 0 0)), some (.int a2), some (.ref (gad G 0 22)), none]) rfl rfl rfl (Nat.le_of_ble_eq_true rfl) (fun C hl hcs ht hC hC1 => ?_)
  subst hl
  delta f_L_agree
  refine aw_aload_n (pc := 0) (i := 2) hC dL_agree_0 rfl rfl ?_
  refine aw_iconst (pc := 1) (v := 0) hC dL_agree_1 ic0 ?_
  refine aw_aload_n (pc := 2) (i := 0) hC dL_agree_2 rfl rfl ?_
  refine aw_iload_n (pc := 3) (i := 1) hC dL_agree_3 rfl rfl ?_
  refine aw_callVX (pc := 4) (As := [.int a2]) hC hcs mb_X9_agree kw1243 (by decide) (c_X9_agree G C.2.1 hl0 μ a2) (v0 (j := 0) (by decide)) rfl rfl rfl rfl (Nat.le_of_ble_eq_true rfl) dL_agree_4 (fun x2 μ3 => ?_) (fun i x2 μ3 hi => ?_)
  · skip
    refine aw_eq (E' := ix 0 1 (nm (upm μ3 0 22 (Int32.toNatClampNeg 0) x2) fun (μ4 : Mem) => some (0, μ4))) rfl ?_
    refine aw_i2l (pc := 7) hC1 dL_agree_7 ?_
    refine aw_lastoreN (pc := 8) (w := x2) hC1 rfl dL_agree_8 (fun μ4 => ?_)
    refine aw_goto (pc := 9) (tgt := 15) hC1 dL_agree_9 (by decide) ?_
    refine aw_iconst (pc := 15) (v := 0) hC1 dL_agree_15 ic0 ?_
    exact aw_iret hC1 dL_agree_16
  · skip
    by_cases h1 : i = 1
    · skip
      subst h1
      refine Or.inr ⟨12, ⟨[], ⟨0, 9, 12, 13⟩, [], "java/lang/IllegalArgumentException", rfl, ht, (fun z hz => absurd hz List.not_mem_nil), rfl, by decide, kw580, kca1, rfl⟩, fun q => ?_⟩
      refine aw_eq (E' := some (1, μ3)) rfl ?_
      refine aw_astore_n (pc := 12) (i := 3) hC1 dL_agree_12 rfl rfl (by decide) ?_
      refine aw_iconst (pc := 13) (v := 1) hC1 dL_agree_13 ic1 ?_
      exact aw_iret hC1 dL_agree_14
    left
    have h0 : ¬ i = 0 := fun e => hi (by rw [e]; rfl)
    exact (if_neg h0).trans ((if_neg h1).trans (rfl))
theorem dL_need_0 : decode cL_need 0 = .ok (.aload_n 2, 1) := by decide +kernel
theorem dL_need_1 : decode cL_need 1 = .ok (.iconst 0, 1) := by decide +kernel
theorem dL_need_2 : decode cL_need 2 = .ok (.aload_n 0, 1) := by decide +kernel
theorem dL_need_3 : decode cL_need 3 = .ok (.iload_n 1, 1) := by decide +kernel
theorem dL_need_4 : decode cL_need 4 = .ok (.invokevirtual 113, 3) := by decide +kernel
theorem dL_need_7 : decode cL_need 7 = .ok (.i2l, 1) := by decide +kernel
theorem dL_need_8 : decode cL_need 8 = .ok (.lastore, 1) := by decide +kernel
theorem dL_need_9 : decode cL_need 9 = .ok (.goto 6, 3) := by decide +kernel
theorem dL_need_12 : decode cL_need 12 = .ok (.astore_n 3, 1) := by decide +kernel
theorem dL_need_13 : decode cL_need 13 = .ok (.iconst 1, 1) := by decide +kernel
theorem dL_need_14 : decode cL_need 14 = .ok (.ireturn, 1) := by decide +kernel
theorem dL_need_15 : decode cL_need 15 = .ok (.iconst 0, 1) := by decide +kernel
theorem dL_need_16 : decode cL_need 16 = .ok (.ireturn, 1) := by decide +kernel
def f_L_need (μ : Mem) (a2 : Int32) : Option (Int32 × Mem) := (f_X9_need μ a2).bind fun (q1 : Nat × Int32 × Mem) => if q1.1 = 0 then (ix 0 1 (nm (upm q1.2.2 0 22 (Int32.toNatClampNeg 0) q1.2.1) fun (μ4 : Mem) => some (0, μ4))) else if q1.1 = 1 then (some (1, q1.2.2)) else none
set_option maxHeartbeats 4000000 in
set_option maxRecDepth 100000 in
theorem c_L_need (G : GG) (l : Launch) (hl0 : l.stackTraces = false) (μ : Mem) (a2 : Int32) : CHL G l yL_need (.codeWith yL_need cL_need 4 (some .int) [(0, 9, 12, 13)]) 6 [.ref (gad G 0 0), .int a2, .ref (gad G 0 22)] μ (f_L_need μ a2) := by
  refine CHL.of (own := "SaturdayKeepLaw") (L0 := [some (.ref (gad G 0 0)), some (.int a2), some (.ref (gad G 0 22)), none]) rfl rfl rfl (Nat.le_of_ble_eq_true rfl) (fun C hl hcs ht hC hC1 => ?_)
  subst hl
  delta f_L_need
  refine aw_aload_n (pc := 0) (i := 2) hC dL_need_0 rfl rfl ?_
  refine aw_iconst (pc := 1) (v := 0) hC dL_need_1 ic0 ?_
  refine aw_aload_n (pc := 2) (i := 0) hC dL_need_2 rfl rfl ?_
  refine aw_iload_n (pc := 3) (i := 1) hC dL_need_3 rfl rfl ?_
  refine aw_callVX (pc := 4) (As := [.int a2]) hC hcs mb_X9_need kw1250 (by decide) (c_X9_need G C.2.1 hl0 μ a2) (v0 (j := 0) (by decide)) rfl rfl rfl rfl (Nat.le_of_ble_eq_true rfl) dL_need_4 (fun x2 μ3 => ?_) (fun i x2 μ3 hi => ?_)
  · skip
    refine aw_eq (E' := ix 0 1 (nm (upm μ3 0 22 (Int32.toNatClampNeg 0) x2) fun (μ4 : Mem) => some (0, μ4))) rfl ?_
    refine aw_i2l (pc := 7) hC1 dL_need_7 ?_
    refine aw_lastoreN (pc := 8) (w := x2) hC1 rfl dL_need_8 (fun μ4 => ?_)
    refine aw_goto (pc := 9) (tgt := 15) hC1 dL_need_9 (by decide) ?_
    refine aw_iconst (pc := 15) (v := 0) hC1 dL_need_15 ic0 ?_
    exact aw_iret hC1 dL_need_16
  · skip
    by_cases h1 : i = 1
    · skip
      subst h1
      refine Or.inr ⟨12, ⟨[], ⟨0, 9, 12, 13⟩, [], "java/lang/IllegalArgumentException", rfl, ht, (fun z hz => absurd hz List.not_mem_nil), rfl, by decide, kw580, kca1, rfl⟩, fun q => ?_⟩
      refine aw_eq (E' := some (1, μ3)) rfl ?_
      refine aw_astore_n (pc := 12) (i := 3) hC1 dL_need_12 rfl rfl (by decide) ?_
      refine aw_iconst (pc := 13) (v := 1) hC1 dL_need_13 ic1 ?_
      exact aw_iret hC1 dL_need_14
    left
    have h0 : ¬ i = 0 := fun e => hi (by rw [e]; rfl)
    exact (if_neg h0).trans ((if_neg h1).trans (rfl))
theorem dL_spread_0 : decode cL_spread 0 = .ok (.aload_n 2, 1) := by decide +kernel
theorem dL_spread_1 : decode cL_spread 1 = .ok (.iconst 0, 1) := by decide +kernel
theorem dL_spread_2 : decode cL_spread 2 = .ok (.aload_n 0, 1) := by decide +kernel
theorem dL_spread_3 : decode cL_spread 3 = .ok (.iload_n 1, 1) := by decide +kernel
theorem dL_spread_4 : decode cL_spread 4 = .ok (.invokevirtual 116, 3) := by decide +kernel
theorem dL_spread_7 : decode cL_spread 7 = .ok (.i2l, 1) := by decide +kernel
theorem dL_spread_8 : decode cL_spread 8 = .ok (.lastore, 1) := by decide +kernel
theorem dL_spread_9 : decode cL_spread 9 = .ok (.goto 6, 3) := by decide +kernel
theorem dL_spread_12 : decode cL_spread 12 = .ok (.astore_n 3, 1) := by decide +kernel
theorem dL_spread_13 : decode cL_spread 13 = .ok (.iconst 1, 1) := by decide +kernel
theorem dL_spread_14 : decode cL_spread 14 = .ok (.ireturn, 1) := by decide +kernel
theorem dL_spread_15 : decode cL_spread 15 = .ok (.iconst 0, 1) := by decide +kernel
theorem dL_spread_16 : decode cL_spread 16 = .ok (.ireturn, 1) := by decide +kernel
def f_L_spread (μ : Mem) (a2 : Int32) : Option (Int32 × Mem) := (f_X9_spread μ a2).bind fun (q1 : Nat × Int32 × Mem) => if q1.1 = 0 then (ix 0 1 (nm (upm q1.2.2 0 22 (Int32.toNatClampNeg 0) q1.2.1) fun (μ4 : Mem) => some (0, μ4))) else if q1.1 = 1 then (some (1, q1.2.2)) else none
set_option maxHeartbeats 4000000 in
set_option maxRecDepth 100000 in
theorem c_L_spread (G : GG) (l : Launch) (hl0 : l.stackTraces = false) (μ : Mem) (a2 : Int32) : CHL G l yL_spread (.codeWith yL_spread cL_spread 4 (some .int) [(0, 9, 12, 13)]) 7 [.ref (gad G 0 0), .int a2, .ref (gad G 0 22)] μ (f_L_spread μ a2) := by
  refine CHL.of (own := "SaturdayKeepLaw") (L0 := [some (.ref (gad G 0 0)), some (.int a2), some (.ref (gad G 0 22)), none]) rfl rfl rfl (Nat.le_of_ble_eq_true rfl) (fun C hl hcs ht hC hC1 => ?_)
  subst hl
  delta f_L_spread
  refine aw_aload_n (pc := 0) (i := 2) hC dL_spread_0 rfl rfl ?_
  refine aw_iconst (pc := 1) (v := 0) hC dL_spread_1 ic0 ?_
  refine aw_aload_n (pc := 2) (i := 0) hC dL_spread_2 rfl rfl ?_
  refine aw_iload_n (pc := 3) (i := 1) hC dL_spread_3 rfl rfl ?_
  refine aw_callVX (pc := 4) (As := [.int a2]) hC hcs mb_X9_spread kw1257 (by decide) (c_X9_spread G C.2.1 hl0 μ a2) (v0 (j := 0) (by decide)) rfl rfl rfl rfl (Nat.le_of_ble_eq_true rfl) dL_spread_4 (fun x2 μ3 => ?_) (fun i x2 μ3 hi => ?_)
  · skip
    refine aw_eq (E' := ix 0 1 (nm (upm μ3 0 22 (Int32.toNatClampNeg 0) x2) fun (μ4 : Mem) => some (0, μ4))) rfl ?_
    refine aw_i2l (pc := 7) hC1 dL_spread_7 ?_
    refine aw_lastoreN (pc := 8) (w := x2) hC1 rfl dL_spread_8 (fun μ4 => ?_)
    refine aw_goto (pc := 9) (tgt := 15) hC1 dL_spread_9 (by decide) ?_
    refine aw_iconst (pc := 15) (v := 0) hC1 dL_spread_15 ic0 ?_
    exact aw_iret hC1 dL_spread_16
  · skip
    by_cases h1 : i = 1
    · skip
      subst h1
      refine Or.inr ⟨12, ⟨[], ⟨0, 9, 12, 13⟩, [], "java/lang/IllegalArgumentException", rfl, ht, (fun z hz => absurd hz List.not_mem_nil), rfl, by decide, kw580, kca1, rfl⟩, fun q => ?_⟩
      refine aw_eq (E' := some (1, μ3)) rfl ?_
      refine aw_astore_n (pc := 12) (i := 3) hC1 dL_spread_12 rfl rfl (by decide) ?_
      refine aw_iconst (pc := 13) (v := 1) hC1 dL_spread_13 ic1 ?_
      exact aw_iret hC1 dL_spread_14
    left
    have h0 : ¬ i = 0 := fun e => hi (by rw [e]; rfl)
    exact (if_neg h0).trans ((if_neg h1).trans (rfl))
theorem dL_trial_0 : decode cL_trial 0 = .ok (.aload_n 3, 1) := by decide +kernel
theorem dL_trial_1 : decode cL_trial 1 = .ok (.iconst 0, 1) := by decide +kernel
theorem dL_trial_2 : decode cL_trial 2 = .ok (.aload_n 0, 1) := by decide +kernel
theorem dL_trial_3 : decode cL_trial 3 = .ok (.iload_n 1, 1) := by decide +kernel
theorem dL_trial_4 : decode cL_trial 4 = .ok (.iload_n 2, 1) := by decide +kernel
theorem dL_trial_5 : decode cL_trial 5 = .ok (.invokevirtual 119, 3) := by decide +kernel
theorem dL_trial_8 : decode cL_trial 8 = .ok (.i2l, 1) := by decide +kernel
theorem dL_trial_9 : decode cL_trial 9 = .ok (.lastore, 1) := by decide +kernel
theorem dL_trial_10 : decode cL_trial 10 = .ok (.goto 7, 3) := by decide +kernel
theorem dL_trial_13 : decode cL_trial 13 = .ok (.astore 4, 2) := by decide +kernel
theorem dL_trial_15 : decode cL_trial 15 = .ok (.iconst 1, 1) := by decide +kernel
theorem dL_trial_16 : decode cL_trial 16 = .ok (.ireturn, 1) := by decide +kernel
theorem dL_trial_17 : decode cL_trial 17 = .ok (.iconst 0, 1) := by decide +kernel
theorem dL_trial_18 : decode cL_trial 18 = .ok (.ireturn, 1) := by decide +kernel
def f_L_trial (μ : Mem) (a2 : Int32) (a3 : Int32) : Option (Int32 × Mem) := (f_X9_trial μ a2 a3).bind fun (q1 : Nat × Int32 × Mem) => if q1.1 = 0 then (ix 0 1 (nm (upm q1.2.2 0 22 (Int32.toNatClampNeg 0) q1.2.1) fun (μ4 : Mem) => some (0, μ4))) else if q1.1 = 1 then (some (1, q1.2.2)) else none
set_option maxHeartbeats 4000000 in
set_option maxRecDepth 100000 in
theorem c_L_trial (G : GG) (l : Launch) (hl0 : l.stackTraces = false) (μ : Mem) (a2 : Int32) (a3 : Int32) : CHL G l yL_trial (.codeWith yL_trial cL_trial 5 (some .int) [(0, 10, 13, 13)]) 9 [.ref (gad G 0 0), .int a2, .int a3, .ref (gad G 0 22)] μ (f_L_trial μ a2 a3) := by
  refine CHL.of (own := "SaturdayKeepLaw") (L0 := [some (.ref (gad G 0 0)), some (.int a2), some (.int a3), some (.ref (gad G 0 22)), none]) rfl rfl rfl (Nat.le_of_ble_eq_true rfl) (fun C hl hcs ht hC hC1 => ?_)
  subst hl
  delta f_L_trial
  refine aw_aload_n (pc := 0) (i := 3) hC dL_trial_0 rfl rfl ?_
  refine aw_iconst (pc := 1) (v := 0) hC dL_trial_1 ic0 ?_
  refine aw_aload_n (pc := 2) (i := 0) hC dL_trial_2 rfl rfl ?_
  refine aw_iload_n (pc := 3) (i := 1) hC dL_trial_3 rfl rfl ?_
  refine aw_iload_n (pc := 4) (i := 2) hC dL_trial_4 rfl rfl ?_
  refine aw_callVX (pc := 5) (As := [.int a2, .int a3]) hC hcs mb_X9_trial kw1268 (by decide) (c_X9_trial G C.2.1 hl0 μ a2 a3) (v0 (j := 0) (by decide)) rfl rfl rfl rfl (Nat.le_of_ble_eq_true rfl) dL_trial_5 (fun x2 μ3 => ?_) (fun i x2 μ3 hi => ?_)
  · skip
    refine aw_eq (E' := ix 0 1 (nm (upm μ3 0 22 (Int32.toNatClampNeg 0) x2) fun (μ4 : Mem) => some (0, μ4))) rfl ?_
    refine aw_i2l (pc := 8) hC1 dL_trial_8 ?_
    refine aw_lastoreN (pc := 9) (w := x2) hC1 rfl dL_trial_9 (fun μ4 => ?_)
    refine aw_goto (pc := 10) (tgt := 17) hC1 dL_trial_10 (by decide) ?_
    refine aw_iconst (pc := 17) (v := 0) hC1 dL_trial_17 ic0 ?_
    exact aw_iret hC1 dL_trial_18
  · skip
    by_cases h1 : i = 1
    · skip
      subst h1
      refine Or.inr ⟨13, ⟨[], ⟨0, 10, 13, 13⟩, [], "java/lang/IllegalArgumentException", rfl, ht, (fun z hz => absurd hz List.not_mem_nil), rfl, by decide, kw580, kca1, rfl⟩, fun q => ?_⟩
      refine aw_eq (E' := some (1, μ3)) rfl ?_
      refine aw_astore (pc := 13) hC1 dL_trial_13 rfl (by decide) ?_
      refine aw_iconst (pc := 15) (v := 1) hC1 dL_trial_15 ic1 ?_
      exact aw_iret hC1 dL_trial_16
    left
    have h0 : ¬ i = 0 := fun e => hi (by rw [e]; rfl)
    exact (if_neg h0).trans ((if_neg h1).trans (rfl))
theorem dL_span_0 : decode cL_span 0 = .ok (.aload_n 3, 1) := by decide +kernel
theorem dL_span_1 : decode cL_span 1 = .ok (.iconst 0, 1) := by decide +kernel
theorem dL_span_2 : decode cL_span 2 = .ok (.aload_n 0, 1) := by decide +kernel
theorem dL_span_3 : decode cL_span 3 = .ok (.iload_n 1, 1) := by decide +kernel
theorem dL_span_4 : decode cL_span 4 = .ok (.iload_n 2, 1) := by decide +kernel
theorem dL_span_5 : decode cL_span 5 = .ok (.invokevirtual 122, 3) := by decide +kernel
theorem dL_span_8 : decode cL_span 8 = .ok (.i2l, 1) := by decide +kernel
theorem dL_span_9 : decode cL_span 9 = .ok (.lastore, 1) := by decide +kernel
theorem dL_span_10 : decode cL_span 10 = .ok (.goto 7, 3) := by decide +kernel
theorem dL_span_13 : decode cL_span 13 = .ok (.astore 4, 2) := by decide +kernel
theorem dL_span_15 : decode cL_span 15 = .ok (.iconst 1, 1) := by decide +kernel
theorem dL_span_16 : decode cL_span 16 = .ok (.ireturn, 1) := by decide +kernel
theorem dL_span_17 : decode cL_span 17 = .ok (.iconst 0, 1) := by decide +kernel
theorem dL_span_18 : decode cL_span 18 = .ok (.ireturn, 1) := by decide +kernel
def f_L_span (μ : Mem) (a2 : Int32) (a3 : Int32) : Option (Int32 × Mem) := (f_X9_span μ a2 a3).bind fun (q1 : Nat × Int32 × Mem) => if q1.1 = 0 then (ix 0 1 (nm (upm q1.2.2 0 22 (Int32.toNatClampNeg 0) q1.2.1) fun (μ4 : Mem) => some (0, μ4))) else if q1.1 = 1 then (some (1, q1.2.2)) else none
set_option maxHeartbeats 4000000 in
set_option maxRecDepth 100000 in
theorem c_L_span (G : GG) (l : Launch) (hl0 : l.stackTraces = false) (μ : Mem) (a2 : Int32) (a3 : Int32) : CHL G l yL_span (.codeWith yL_span cL_span 5 (some .int) [(0, 10, 13, 13)]) 9 [.ref (gad G 0 0), .int a2, .int a3, .ref (gad G 0 22)] μ (f_L_span μ a2 a3) := by
  refine CHL.of (own := "SaturdayKeepLaw") (L0 := [some (.ref (gad G 0 0)), some (.int a2), some (.int a3), some (.ref (gad G 0 22)), none]) rfl rfl rfl (Nat.le_of_ble_eq_true rfl) (fun C hl hcs ht hC hC1 => ?_)
  subst hl
  delta f_L_span
  refine aw_aload_n (pc := 0) (i := 3) hC dL_span_0 rfl rfl ?_
  refine aw_iconst (pc := 1) (v := 0) hC dL_span_1 ic0 ?_
  refine aw_aload_n (pc := 2) (i := 0) hC dL_span_2 rfl rfl ?_
  refine aw_iload_n (pc := 3) (i := 1) hC dL_span_3 rfl rfl ?_
  refine aw_iload_n (pc := 4) (i := 2) hC dL_span_4 rfl rfl ?_
  refine aw_callVX (pc := 5) (As := [.int a2, .int a3]) hC hcs mb_X9_span kw1275 (by decide) (c_X9_span G C.2.1 hl0 μ a2 a3) (v0 (j := 0) (by decide)) rfl rfl rfl rfl (Nat.le_of_ble_eq_true rfl) dL_span_5 (fun x2 μ3 => ?_) (fun i x2 μ3 hi => ?_)
  · skip
    refine aw_eq (E' := ix 0 1 (nm (upm μ3 0 22 (Int32.toNatClampNeg 0) x2) fun (μ4 : Mem) => some (0, μ4))) rfl ?_
    refine aw_i2l (pc := 8) hC1 dL_span_8 ?_
    refine aw_lastoreN (pc := 9) (w := x2) hC1 rfl dL_span_9 (fun μ4 => ?_)
    refine aw_goto (pc := 10) (tgt := 17) hC1 dL_span_10 (by decide) ?_
    refine aw_iconst (pc := 17) (v := 0) hC1 dL_span_17 ic0 ?_
    exact aw_iret hC1 dL_span_18
  · skip
    by_cases h1 : i = 1
    · skip
      subst h1
      refine Or.inr ⟨13, ⟨[], ⟨0, 10, 13, 13⟩, [], "java/lang/IllegalArgumentException", rfl, ht, (fun z hz => absurd hz List.not_mem_nil), rfl, by decide, kw580, kca1, rfl⟩, fun q => ?_⟩
      refine aw_eq (E' := some (1, μ3)) rfl ?_
      refine aw_astore (pc := 13) hC1 dL_span_13 rfl (by decide) ?_
      refine aw_iconst (pc := 15) (v := 1) hC1 dL_span_15 ic1 ?_
      exact aw_iret hC1 dL_span_16
    left
    have h0 : ¬ i = 0 := fun e => hi (by rw [e]; rfl)
    exact (if_neg h0).trans ((if_neg h1).trans (rfl))
theorem dL_led_0 : decode cL_led 0 = .ok (.aload_n 3, 1) := by decide +kernel
theorem dL_led_1 : decode cL_led 1 = .ok (.iconst 0, 1) := by decide +kernel
theorem dL_led_2 : decode cL_led 2 = .ok (.aload_n 0, 1) := by decide +kernel
theorem dL_led_3 : decode cL_led 3 = .ok (.iload_n 1, 1) := by decide +kernel
theorem dL_led_4 : decode cL_led 4 = .ok (.iload_n 2, 1) := by decide +kernel
theorem dL_led_5 : decode cL_led 5 = .ok (.invokevirtual 125, 3) := by decide +kernel
theorem dL_led_8 : decode cL_led 8 = .ok (.i2l, 1) := by decide +kernel
theorem dL_led_9 : decode cL_led 9 = .ok (.lastore, 1) := by decide +kernel
theorem dL_led_10 : decode cL_led 10 = .ok (.goto 7, 3) := by decide +kernel
theorem dL_led_13 : decode cL_led 13 = .ok (.astore 4, 2) := by decide +kernel
theorem dL_led_15 : decode cL_led 15 = .ok (.iconst 1, 1) := by decide +kernel
theorem dL_led_16 : decode cL_led 16 = .ok (.ireturn, 1) := by decide +kernel
theorem dL_led_17 : decode cL_led 17 = .ok (.iconst 0, 1) := by decide +kernel
theorem dL_led_18 : decode cL_led 18 = .ok (.ireturn, 1) := by decide +kernel
def f_L_led (μ : Mem) (a2 : Int32) (a3 : Int32) : Option (Int32 × Mem) := (f_X9_led μ a2 a3).bind fun (q1 : Nat × Int32 × Mem) => if q1.1 = 0 then (ix 0 1 (nm (upm q1.2.2 0 22 (Int32.toNatClampNeg 0) q1.2.1) fun (μ4 : Mem) => some (0, μ4))) else if q1.1 = 3 then (some (1, q1.2.2)) else none
set_option maxHeartbeats 4000000 in
set_option maxRecDepth 100000 in
theorem c_L_led (G : GG) (l : Launch) (hl0 : l.stackTraces = false) (μ : Mem) (a2 : Int32) (a3 : Int32) : CHL G l yL_led (.codeWith yL_led cL_led 5 (some .int) [(0, 10, 13, 24)]) 6 [.ref (gad G 0 0), .int a2, .int a3, .ref (gad G 0 22)] μ (f_L_led μ a2 a3) := by
  refine CHL.of (own := "SaturdayKeepLaw") (L0 := [some (.ref (gad G 0 0)), some (.int a2), some (.int a3), some (.ref (gad G 0 22)), none]) rfl rfl rfl (Nat.le_of_ble_eq_true rfl) (fun C hl hcs ht hC hC1 => ?_)
  subst hl
  delta f_L_led
  refine aw_aload_n (pc := 0) (i := 3) hC dL_led_0 rfl rfl ?_
  refine aw_iconst (pc := 1) (v := 0) hC dL_led_1 ic0 ?_
  refine aw_aload_n (pc := 2) (i := 0) hC dL_led_2 rfl rfl ?_
  refine aw_iload_n (pc := 3) (i := 1) hC dL_led_3 rfl rfl ?_
  refine aw_iload_n (pc := 4) (i := 2) hC dL_led_4 rfl rfl ?_
  refine aw_callVX (pc := 5) (As := [.int a2, .int a3]) hC hcs mb_X9_led kw1282 (by decide) (c_X9_led G C.2.1 hl0 μ a2 a3) (v0 (j := 0) (by decide)) rfl rfl rfl rfl (Nat.le_of_ble_eq_true rfl) dL_led_5 (fun x2 μ3 => ?_) (fun i x2 μ3 hi => ?_)
  · skip
    refine aw_eq (E' := ix 0 1 (nm (upm μ3 0 22 (Int32.toNatClampNeg 0) x2) fun (μ4 : Mem) => some (0, μ4))) rfl ?_
    refine aw_i2l (pc := 8) hC1 dL_led_8 ?_
    refine aw_lastoreN (pc := 9) (w := x2) hC1 rfl dL_led_9 (fun μ4 => ?_)
    refine aw_goto (pc := 10) (tgt := 17) hC1 dL_led_10 (by decide) ?_
    refine aw_iconst (pc := 17) (v := 0) hC1 dL_led_17 ic0 ?_
    exact aw_iret hC1 dL_led_18
  · skip
    by_cases h3 : i = 3
    · skip
      subst h3
      refine Or.inr ⟨13, ⟨[], ⟨0, 10, 13, 24⟩, [], "java/lang/IndexOutOfBoundsException", rfl, ht, (fun z hz => absurd hz List.not_mem_nil), rfl, by decide, kw873, kca3, rfl⟩, fun q => ?_⟩
      refine aw_eq (E' := some (1, μ3)) rfl ?_
      refine aw_astore (pc := 13) hC1 dL_led_13 rfl (by decide) ?_
      refine aw_iconst (pc := 15) (v := 1) hC1 dL_led_15 ic1 ?_
      exact aw_iret hC1 dL_led_16
    left
    have h0 : ¬ i = 0 := fun e => hi (by rw [e]; rfl)
    exact (if_neg h0).trans ((if_neg h3).trans (rfl))
theorem dL_log_0 : decode cL_log 0 = .ok (.aload_n 3, 1) := by decide +kernel
theorem dL_log_1 : decode cL_log 1 = .ok (.iconst 0, 1) := by decide +kernel
theorem dL_log_2 : decode cL_log 2 = .ok (.aload_n 0, 1) := by decide +kernel
theorem dL_log_3 : decode cL_log 3 = .ok (.iload_n 1, 1) := by decide +kernel
theorem dL_log_4 : decode cL_log 4 = .ok (.iload_n 2, 1) := by decide +kernel
theorem dL_log_5 : decode cL_log 5 = .ok (.invokevirtual 128, 3) := by decide +kernel
theorem dL_log_8 : decode cL_log 8 = .ok (.i2l, 1) := by decide +kernel
theorem dL_log_9 : decode cL_log 9 = .ok (.lastore, 1) := by decide +kernel
theorem dL_log_10 : decode cL_log 10 = .ok (.goto 7, 3) := by decide +kernel
theorem dL_log_13 : decode cL_log 13 = .ok (.astore 4, 2) := by decide +kernel
theorem dL_log_15 : decode cL_log 15 = .ok (.iconst 1, 1) := by decide +kernel
theorem dL_log_16 : decode cL_log 16 = .ok (.ireturn, 1) := by decide +kernel
theorem dL_log_17 : decode cL_log 17 = .ok (.iconst 0, 1) := by decide +kernel
theorem dL_log_18 : decode cL_log 18 = .ok (.ireturn, 1) := by decide +kernel
def f_L_log (μ : Mem) (a2 : Int32) (a3 : Int32) : Option (Int32 × Mem) := (f_X9_log μ a2 a3).bind fun (q1 : Nat × Int32 × Mem) => if q1.1 = 0 then (ix 0 1 (nm (upm q1.2.2 0 22 (Int32.toNatClampNeg 0) q1.2.1) fun (μ4 : Mem) => some (0, μ4))) else if q1.1 = 4 then (some (1, q1.2.2)) else none
set_option maxHeartbeats 4000000 in
set_option maxRecDepth 100000 in
theorem c_L_log (G : GG) (l : Launch) (hl0 : l.stackTraces = false) (μ : Mem) (a2 : Int32) (a3 : Int32) : CHL G l yL_log (.codeWith yL_log cL_log 5 (some .int) [(0, 10, 13, 26)]) 6 [.ref (gad G 0 0), .int a2, .int a3, .ref (gad G 0 22)] μ (f_L_log μ a2 a3) := by
  refine CHL.of (own := "SaturdayKeepLaw") (L0 := [some (.ref (gad G 0 0)), some (.int a2), some (.int a3), some (.ref (gad G 0 22)), none]) rfl rfl rfl (Nat.le_of_ble_eq_true rfl) (fun C hl hcs ht hC hC1 => ?_)
  subst hl
  delta f_L_log
  refine aw_aload_n (pc := 0) (i := 3) hC dL_log_0 rfl rfl ?_
  refine aw_iconst (pc := 1) (v := 0) hC dL_log_1 ic0 ?_
  refine aw_aload_n (pc := 2) (i := 0) hC dL_log_2 rfl rfl ?_
  refine aw_iload_n (pc := 3) (i := 1) hC dL_log_3 rfl rfl ?_
  refine aw_iload_n (pc := 4) (i := 2) hC dL_log_4 rfl rfl ?_
  refine aw_callVX (pc := 5) (As := [.int a2, .int a3]) hC hcs mb_X9_log kw1302 (by decide) (c_X9_log G C.2.1 hl0 μ a2 a3) (v0 (j := 0) (by decide)) rfl rfl rfl rfl (Nat.le_of_ble_eq_true rfl) dL_log_5 (fun x2 μ3 => ?_) (fun i x2 μ3 hi => ?_)
  · skip
    refine aw_eq (E' := ix 0 1 (nm (upm μ3 0 22 (Int32.toNatClampNeg 0) x2) fun (μ4 : Mem) => some (0, μ4))) rfl ?_
    refine aw_i2l (pc := 8) hC1 dL_log_8 ?_
    refine aw_lastoreN (pc := 9) (w := x2) hC1 rfl dL_log_9 (fun μ4 => ?_)
    refine aw_goto (pc := 10) (tgt := 17) hC1 dL_log_10 (by decide) ?_
    refine aw_iconst (pc := 17) (v := 0) hC1 dL_log_17 ic0 ?_
    exact aw_iret hC1 dL_log_18
  · skip
    by_cases h4 : i = 4
    · skip
      subst h4
      refine Or.inr ⟨13, ⟨[], ⟨0, 10, 13, 26⟩, [], "java/util/NoSuchElementException", rfl, ht, (fun z hz => absurd hz List.not_mem_nil), rfl, by decide, kw874, kca4, rfl⟩, fun q => ?_⟩
      refine aw_eq (E' := some (1, μ3)) rfl ?_
      refine aw_astore (pc := 13) hC1 dL_log_13 rfl (by decide) ?_
      refine aw_iconst (pc := 15) (v := 1) hC1 dL_log_15 ic1 ?_
      exact aw_iret hC1 dL_log_16
    left
    have h0 : ¬ i = 0 := fun e => hi (by rw [e]; rfl)
    exact (if_neg h0).trans ((if_neg h4).trans (rfl))
