/-! ===== the constructors: a world that grows at its end ===== -/
/-- what a constructor may take as given: the cells ws, apart and ours -/
def PB (G : GG) (ws : va_W) (U : State) : Prop := va_P (gD G) vwCl ws U.heap ∧ va_D (gA G) ws ∧ va_K (gD G) vwCl (gT G) U ∧ glo G ≤ U.heap.size ∧ (∀ w ∈ lw_tbl, isOth w = true → va_Nw w U) ∧ va_AO "SaturdayKeep$House" U
theorem PB_blind {G : GG} {ws : va_W} (vs : List Value) : FrameBlind (va_Pc vs (PB G ws)) := fun a U g mk h =>
  ⟨h.1, h.2.1, h.2.2.1, va_K.moved (u := U) (U := U.calling g mk a) (Vm.Alike.refl U.vm) h.2.2.2.1, h.2.2.2.2.1, fun w hw ho => va_Nw.same (oth_tab ho) (u := U) rfl (h.2.2.2.2.2.1 w hw ho), va_AO.moved (u := U) (U := U.calling g mk a) (Vm.Alike.refl U.vm) h.2.2.2.2.2.2⟩
def CB (G : GG) (C : CX) (own : String) (cc : ByteArray) (nL lvl : Nat) : Prop := (C.1.tables.exec = Jvm.exec) ∧ ((cC C).code = cc) ∧ ((cC C).maxLocals = nL) ∧ ((cS C).vm.findClass own = some (cM C).cls) ∧ (∀ w ∈ BIG, w.before (cArgs C) (cS C) = true) ∧ ((cMe C).locks = false) ∧ (va_K (gD G) vwCl (gT G) (cS C)) ∧ (glo G ≤ (cS C).heap.size) ∧ (∀ w ∈ lw_tbl, isOth w = true → va_Nw w (cS C)) ∧ (va_AO "SaturdayKeep$House" (cS C)) ∧ (2 * lvl ≤ (cR C).frames ∧ 64 * lvl ≤ (cR C).locals)
theorem CB.x {G : GG} {C : CX} {own : String} {cc : ByteArray} {nL lvl : Nat} (h : CB G C own cc nL lvl) : C.1.tables.exec = Jvm.exec := h.1
theorem CB.b {G : GG} {C : CX} {own : String} {cc : ByteArray} {nL lvl : Nat} (h : CB G C own cc nL lvl) : (cC C).code = cc := h.2.1
theorem CB.ml {G : GG} {C : CX} {own : String} {cc : ByteArray} {nL lvl : Nat} (h : CB G C own cc nL lvl) : (cC C).maxLocals = nL := h.2.2.1
theorem CB.ow {G : GG} {C : CX} {own : String} {cc : ByteArray} {nL lvl : Nat} (h : CB G C own cc nL lvl) : (cS C).vm.findClass own = some (cM C).cls := h.2.2.2.1
theorem CB.ws {G : GG} {C : CX} {own : String} {cc : ByteArray} {nL lvl : Nat} (h : CB G C own cc nL lvl) : ∀ w ∈ BIG, w.before (cArgs C) (cS C) = true := h.2.2.2.2.1
theorem CB.lk {G : GG} {C : CX} {own : String} {cc : ByteArray} {nL lvl : Nat} (h : CB G C own cc nL lvl) : (cMe C).locks = false := h.2.2.2.2.2.1
theorem CB.K {G : GG} {C : CX} {own : String} {cc : ByteArray} {nL lvl : Nat} (h : CB G C own cc nL lvl) : va_K (gD G) vwCl (gT G) (cS C) := h.2.2.2.2.2.2.1
theorem CB.lo {G : GG} {C : CX} {own : String} {cc : ByteArray} {nL lvl : Nat} (h : CB G C own cc nL lvl) : glo G ≤ (cS C).heap.size := h.2.2.2.2.2.2.2.1
theorem CB.nw {G : GG} {C : CX} {own : String} {cc : ByteArray} {nL lvl : Nat} (h : CB G C own cc nL lvl) : ∀ w ∈ lw_tbl, isOth w = true → va_Nw w (cS C) := h.2.2.2.2.2.2.2.2.1
theorem CB.ao {G : GG} {C : CX} {own : String} {cc : ByteArray} {nL lvl : Nat} (h : CB G C own cc nL lvl) : va_AO "SaturdayKeep$House" (cS C) := h.2.2.2.2.2.2.2.2.2.1
theorem CB.rm {G : GG} {C : CX} {own : String} {cc : ByteArray} {nL lvl : Nat} (h : CB G C own cc nL lvl) : 2 * lvl ≤ (cR C).frames ∧ 64 * lvl ≤ (cR C).locals := h.2.2.2.2.2.2.2.2.2.2
def qcB (G : GG) (Post : va_W → Prop) : Array Value → State → Outcome → State → Prop := fun _ st o t => o = .returned none ∧ (∃ ws', Post ws' ∧ va_P (gD G) vwCl ws' t.heap ∧ va_D (gA G) ws') ∧ va_F (gA G) st t
abbrev rmB (k mc ms : Nat) : Room := { frames := 2 * k, cells := mc, slots := ms, locals := 64 * k }
/-- a constructor: from the cells ws to cells with Post -/
def CN (G : GG) (l : Launch) (y : MethodName) (c0 : Cond) (lvl mc ms : Nat) (vs : List Value) (ws : va_W) (Post : va_W → Prop) : Prop := Met l y (c0 :: BIG) (rmB lvl mc ms) (va_Pc vs (PB G ws)) (qcB G Post) mc ms (gA G)
def BJ (G : GG) (C : CX) (Q : State → Prop) (kc ks nL : Nat) (X R : va_W) (pc : Nat) (L : List (Option Value)) (st : List Value) : Prop :=
  ∀ (H : Heap) (locs : List Loc) (ls : Array Slot), va_P (gD G) vwCl (X ++ R) H → va_D (gA G) (X ++ R) → va_S (gA G) (cS C).heap H locs → lvp ls nL L → WX C H locs kc ks Q (F0 (cM C) pc ls st)
theorem CN.of {G : GG} {l : Launch} {y : MethodName} {cc : ByteArray} {nL lvl mc ms : Nat} {vs : List Value} {L0 : List (Option Value)} {X R : va_W} {Post : va_W → Prop} {own : String} (ho : y.cls = own) (hi : y.name = "<init>") (hy : plainName y.cls = true) (hL : lv_args 0 vs = asc 0 L0) (hn : (lg_sl vs).length ≤ nL)
    (body : ∀ C : CX, C.2.1 = l → mc ≤ (cR C).cells → ms ≤ (cR C).slots → (cMe C).name = "<init>" → (cMe C).sig.returnType = none → CB G C own cc nL lvl → BJ G C (MQ (cBel C) (qcB G Post) (cArgs C) (cS C) mc ms (gA G)) 0 0 nL X R 0 L0 []) : CN G l y (.code y cc nL none) lvl mc ms vs (X ++ R) Post := by
  refine Met.ofW (cc := cc) (maxL := nL) (ret := none) hy rfl ?_
  intro p e s m args below meth c s₁ B hml hv
  obtain ⟨rfl, hP, hD, hK, hlo, hnw, hao⟩ := hv
  have hts := atoms_spec (ws := Cond.code y cc nL none :: BIG) B.pre
  have hC : CB G (p, l, e, rmB lvl mc ms, s, m, vs.toArray, below, meth, c) own cc nL lvl :=
    ⟨B.exec, B.bytes, hml, by rw [← ho]; exact findClass_of_methodNamed B.named, fun w hw => hts w (List.mem_cons_of_mem _ hw), B.notSynchronized, hK, hlo, hnw, hao, ⟨Nat.le_refl _, Nat.le_refl _⟩⟩
  have hin : meth.name = "<init>" := (name_of_methodNamed B.named B.method).1.trans hi
  have hl := lv_entry vs (n := nL) hn
  rw [hL] at hl
  rw [lg_entry_eq]
  exact body (p, l, e, rmB lvl mc ms, s, m, vs.toArray, below, meth, c) rfl (Nat.le_refl _) (Nat.le_refl _) hin B.returns hC _ _ _ hP hD va_S.rf hl
theorem at_app {X R : va_W} {i : Nat} {e : Nat × va_E} (h : R[i]? = some e) : (X ++ R)[X.length + i]? = some e := by rw [List.getElem?_append_right (Nat.le_add_right _ _), Nat.add_sub_cancel_left]; exact h
theorem set_app (X R : va_W) (i : Nat) (e : Nat × va_E) : (X ++ R).set (X.length + i) e = X ++ R.set i e := by rw [List.set_append_right _ _ (Nat.le_add_right _ _), Nat.add_sub_cancel_left]
section BJR
variable {G : GG} {C : CX} {own : String} {cc : ByteArray} {nL lvl kc ks : Nat} {Q : State → Prop} {X R R' : va_W} {pc : Nat} {L : List (Option Value)} {st : List Value}
theorem CB.w (h : CB G C own cc nL lvl) {w : Cond} (hw : w ∈ BIG) : w.before (cArgs C) (cS C) = true := h.ws w hw
theorem CB.hA (h : CB G C own cc nL lvl) : ∀ q : Nat, (cS C).heap.size ≤ q → gA G q := fun q hq => Nat.le_trans h.lo hq
theorem bj_iconst (hC : CB G C own cc nL lvl) {n : Int} {v : Int32} (hd : decode cc pc = .ok (.iconst n, 1)) (hv : Int32.ofInt n = v) (k : BJ G C Q kc ks nL X R (pc + 1) L (.int v :: st)) : BJ G C Q kc ks nL X R pc L st := fun H locs ls hP hD hS hL => lv_iconst hC.x hC.b hd hv (k H locs ls hP hD hS hL)
theorem bj_bipush (hC : CB G C own cc nL lvl) {n : Int} {v : Int32} (hd : decode cc pc = .ok (.bipush n, 2)) (hv : (Int8.ofInt n).toInt32 = v) (k : BJ G C Q kc ks nL X R (pc + 2) L (.int v :: st)) : BJ G C Q kc ks nL X R pc L st := fun H locs ls hP hD hS hL => lv_bipush hC.x hC.b hd hv (k H locs ls hP hD hS hL)
theorem bj_sipush (hC : CB G C own cc nL lvl) {n : Int} {v : Int32} (hd : decode cc pc = .ok (.sipush n, 3)) (hv : (Int16.ofInt n).toInt32 = v) (k : BJ G C Q kc ks nL X R (pc + 3) L (.int v :: st)) : BJ G C Q kc ks nL X R pc L st := fun H locs ls hP hD hS hL => lv_sipush hC.x hC.b hd hv (k H locs ls hP hD hS hL)
theorem bj_aload_n (hC : CB G C own cc nL lvl) {kf : Fin 4} {i v : Nat} (hd : decode cc pc = .ok (.aload_n kf, 1)) (hi : (kf : Nat) = i) (hl : L[i]? = some (some (.ref v))) (k : BJ G C Q kc ks nL X R (pc + 1) L (.ref v :: st)) : BJ G C Q kc ks nL X R pc L st := fun H locs ls hP hD hS hL => lv_aload_n hC.x hC.b hd hi (lvp_at hL hl) (k H locs ls hP hD hS hL)
theorem bj_iload_n (hC : CB G C own cc nL lvl) {kf : Fin 4} {i : Nat} {v : Int32} (hd : decode cc pc = .ok (.iload_n kf, 1)) (hi : (kf : Nat) = i) (hl : L[i]? = some (some (.int v))) (k : BJ G C Q kc ks nL X R (pc + 1) L (.int v :: st)) : BJ G C Q kc ks nL X R pc L st := fun H locs ls hP hD hS hL => lv_iload_n hC.x hC.b hd hi (lvp_at hL hl) (k H locs ls hP hD hS hL)
theorem bj_istore_n (hC : CB G C own cc nL lvl) {kf : Fin 4} {i : Nat} {v : Int32} (hd : decode cc pc = .ok (.istore_n kf, 1)) (hi : (kf : Nat) = i) (ho : okS L i = true) (hn : i < nL) (k : BJ G C Q kc ks nL X R (pc + 1) (L.set i (some (.int v))) st) : BJ G C Q kc ks nL X R pc L (.int v :: st) := fun H locs ls hP hD hS hL => lv_istore_n hC.x hC.b hd hi hL hn rfl (fun ls2 h2 => k H locs ls2 hP hD hS (lvp_set1 ho h2))
theorem bj_iinc (hC : CB G C own cc nL lvl) {i : Nat} {n : Int} {u v : Int32} (hd : decode cc pc = .ok (.iinc i n, 3)) (hl : L[i]? = some (some (.int u))) (hv : u + Int32.ofInt n = v) (ho : okS L i = true) (hn : i < nL) (k : BJ G C Q kc ks nL X R (pc + 3) (L.set i (some (.int v))) st) : BJ G C Q kc ks nL X R pc L st := by
  intro H locs ls hP hD hS hL
  obtain ⟨kk, hk⟩ := lvp_in hL hl
  exact lv_iinc hC.x hC.b hd hL hk hv hn rfl (fun ls2 h2 => k H locs ls2 hP hD hS (lvp_set1 ho h2))
theorem bj_dup (hC : CB G C own cc nL lvl) {v : Nat} (hd : decode cc pc = .ok (.dup, 1)) (k : BJ G C Q kc ks nL X R (pc + 1) L (.ref v :: .ref v :: st)) : BJ G C Q kc ks nL X R pc L (.ref v :: st) := fun H locs ls hP hD hS hL => lv_dup hC.x hC.b hd rfl (k H locs ls hP hD hS hL)
theorem bj_goto (hC : CB G C own cc nL lvl) {off : Int} {tgt : Nat} (hd : decode cc pc = .ok (.goto off, 3)) (ht : (pc : Int) + off = (tgt : Int)) (k : BJ G C Q kc ks nL X R tgt L st) : BJ G C Q kc ks nL X R pc L st := fun H locs ls hP hD hS hL => lv_goto hC.x hC.b hd ht (k H locs ls hP hD hS hL)
theorem bj_icmp_ge (hC : CB G C own cc nL lvl) {u v : Int32} {off : Int} {tgt : Nat} (hd : decode cc pc = .ok (.if_icmp .ge off, 3)) (ht : (pc : Int) + off = (tgt : Int)) (kt : v ≤ u → BJ G C Q kc ks nL X R tgt L st) (kf : ¬ v ≤ u → BJ G C Q kc ks nL X R (pc + 3) L st) : BJ G C Q kc ks nL X R pc L (.int v :: .int u :: st) := by
  intro H locs ls hP hD hS hL
  by_cases c : v ≤ u
  · exact lv_icmp_ge hC.x hC.b hd ht (fun _ => kt c H locs ls hP hD hS hL) (fun c2 => absurd c c2)
  · exact lv_icmp_ge hC.x hC.b hd ht (fun c2 => absurd c2 c) (fun _ => kf c H locs ls hP hD hS hL)
theorem bj_objInit (hC : CB G C own cc nL lvl) {index v : Nat} (hw : Cond.methodLink own index objectInit ∈ BIG) (hi : Cond.instanceMethod objectInit ∈ BIG) (hcd : Cond.code objectInit ⟨#[0xb1]⟩ 1 none ∈ BIG) (hd : decode cc pc = .ok (.invokespecial index, 3)) (hf : 1 ≤ (cR C).frames) (hl : 12 + 8 ≤ (cR C).locals) (hr8 : (st.map fun v => v.category).sum ≤ 8) (k : BJ G C Q kc ks nL X R (pc + 3) L st) : BJ G C Q kc ks nL X R pc L (.ref v :: st) := by
  intro H locs ls hP hD hS hL
  refine W.objInit hC.x hC.b hC.ow (hC.w hw) (hC.w hi) (hC.w hcd) rfl (by rw [hC.ml]; exact hL.1) rfl hd (by first | exact hf | omega) (by first | exact hl | (simp only [List.map_cons, List.sum_cons]; omega) | omega) ?_
  exact k H locs ls hP hD hS hL
theorem bj_new (hC : CB G C own cc nL lvl) {C0 : String} {T : u_T} {N ci index : Nat} {fs : List Value} (hin : ∀ w ∈ u_ws C0 T N, w ∈ BIG) (ty : Nat → FieldType) (hty : ∀ k, k < N → parseFieldDescriptor (T k).2.2.1 = some (ty k)) (hcl : Cond.classLink own index C0 ∈ BIG) (hinst : Cond.instantiable C0 N ∈ BIG) (hini : Cond.initialized C0 ∈ BIG) (hc : vwCl[ci]? = some (C0, T, N)) (hfs : ∀ j, j < N → defaultValue (ty j) = vp_V fs j) (hkc : kc + 1 ≤ (cR C).cells) (hks : ks + N ≤ (cR C).slots) (hd : decode cc pc = .ok (.new index, 3))
    (kk : ∀ q, BJ G C Q (kc + 1) (ks + N) nL X (R ++ [(q, .inr (ci, fs))]) (pc + 3) L (.ref q :: st)) : BJ G C Q kc ks nL X R pc L st := by
  intro H locs ls hP hD hS hL
  refine va_new hC.x hC.b hC.ws hin ty hty hC.ow (hC.w hcl) (hC.w hinst) (hC.w hini) hC.K hP hD hS hC.hA hc hfs hkc hks hd (fun q H1 hP1 hD1 hS1 => ?_)
  rw [List.append_assoc] at hP1 hD1
  exact kk q H1 locs ls hP1 hD1 hS1 hL
theorem bj_newa (hC : CB G C own cc nL lvl) {atype : ArrayType} {ty : FieldType} (t : Nat) (harr : Cond.arrayClass (newarray.typeOf atype) ∈ BIG) (hty : newarray.typeOf atype = ty) (htt : (gT G)[t]? = some (gcA G t, ty)) (hno : ∀ c, ty ≠ .object c) {n : Int32} {N' : Nat} {a0 : vp_A} (ha : ∀ cA : ClassId, vp_cell cA a0 = arrV cA N' (fun _ => defaultValue ty)) (hn : ¬ n < 0) (hN : n.toNatClampNeg = N') (hbytes : N' * componentBytes ty ≤ 536870912) (hkc : kc + 1 ≤ (cR C).cells) (hks : ks + N' ≤ (cR C).slots) (hd : decode cc pc = .ok (.newarray atype, 2))
    (kk : ∀ q, BJ G C Q (kc + 1) (ks + N') nL X (R ++ [(q, .inl (gcA G t, a0))]) (pc + 2) L (.ref q :: st)) : BJ G C Q kc ks nL X R pc L (.int n :: st) := by
  intro H locs ls hP hD hS hL
  refine va_newa hC.x hC.b (hC.w harr) hty hC.K hP hD hS hC.hA ha hn hN hbytes hkc hks hd (fun q cA H1 hK1 hP1 hD1 hS1 => ?_)
  have h1 := (hK1.2 4 (cA, ty) rfl).2
  have h2 := (hC.K.2 t _ htt).2
  have e : cA = gcA G t := by
    cases ty <;> first | exact Option.some.inj (h1.symm.trans h2) | exact absurd rfl (hno _)
  subst e
  rw [List.append_assoc] at hP1 hD1
  exact kk q H1 locs ls hP1 hD1 hS1 hL
theorem bj_newq (hC : CB G C own cc nL lvl) {index : Nat} (hcl : Cond.classLink own index "SaturdayKeep$House" ∈ BIG) {n : Int32} {N' : Nat} (hn : ¬ n < 0) (hN : n.toNatClampNeg = N') (hbytes : N' * 4 ≤ 536870912) (hkc : kc + 1 ≤ (cR C).cells) (hks : ks + N' ≤ (cR C).slots) (hd : decode cc pc = .ok (.anewarray index, 3))
    (kk : ∀ q, BJ G C Q (kc + 1) (ks + N') nL X (R ++ [(q, .inl (gcA G 3, N', .inr (.inr (.inr (.inr (fun _ => none))))))]) (pc + 3) L (.ref q :: st)) : BJ G C Q kc ks nL X R pc L (.int n :: st) := by
  intro H locs ls hP hD hS hL
  refine va_newq hC.x hC.b hC.ow (hC.w hcl) hC.ao hC.K hP hD hS hC.hA hn hN hbytes hkc hks hd (fun q cA H1 hK1 hP1 hD1 hS1 => ?_)
  obtain ⟨_, _, _, _, _, h1⟩ := (hK1.2 4 (cA, .object "SaturdayKeep$House") rfl).2
  obtain ⟨_, _, _, _, _, h2⟩ := (hC.K.2 3 (gcA G 3, .object "SaturdayKeep$House") rfl).2
  have e : cA = gcA G 3 := Option.some.inj (h1.symm.trans h2)
  subst e
  rw [List.append_assoc] at hP1 hD1
  exact kk q H1 locs ls hP1 hD1 hS1 hL
theorem bj_putF (hC : CB G C own cc nL lvl) (hnm0 : (cMe C).name = "<init>") {ref C0 : String} {T : u_T} {N ci index a : Nat} (hin : ∀ w ∈ u_ws C0 T N, w ∈ BIG) (ty0 : Nat → FieldType) (hty : ∀ k, k < N → parseFieldDescriptor (T k).2.2.1 = some (ty0 k)) (hnm : ∀ a, a < N → ∀ b, b < N → a ≠ b → (T a).2.1 ≠ (T b).2.1) (i : Nat) {fs : List Value} (he : R[i]? = some (a, .inr (ci, fs))) (hc : vwCl[ci]? = some (C0, T, N)) (k : Nat) (hk : k < N) (hw : Cond.fieldLink own index ref (T k).2.1 (T k).2.2.1 ∈ BIG) (hs : (T k).1 = ref) (hfin : (T k).2.2.2 = true) (hdecl : (T k).1 = own) {ty : FieldType} {v : Value} (hdsc : parseFieldDescriptor (T k).2.2.1 = some ty) (hn : narrow ty v = v) (hfit : fits ty v = true) (hl : k < fs.length) (hd : decode cc pc = .ok (.putfield index, 3)) (hR : R.set i (a, .inr (ci, fs.set k v)) = R') (kk : BJ G C Q kc ks nL X R' (pc + 3) L st) : BJ G C Q kc ks nL X R pc L (v :: .ref a :: st) := by
  intro H locs ls hP hD hS hL
  refine va_putF hC.x hC.b hC.ws hin ty0 hty hnm hC.ow hC.K hP hD hS (X.length + i) (at_app he) hc k hk (hC.w hw) (fun y hy => by rw [← hs]; exact hy) hfin hnm0 hdecl hdsc hn hfit hl hd (fun H1 locs1 hP1 hD1 hS1 => ?_)
  rw [set_app, hR] at hP1 hD1
  exact kk H1 locs1 ls hP1 hD1 hS1 hL
theorem bj_put (hC : CB G C own cc nL lvl) {ref C0 : String} {T : u_T} {N ci index a : Nat} (hin : ∀ w ∈ u_ws C0 T N, w ∈ BIG) (ty0 : Nat → FieldType) (hty : ∀ k, k < N → parseFieldDescriptor (T k).2.2.1 = some (ty0 k)) (hnm : ∀ a, a < N → ∀ b, b < N → a ≠ b → (T a).2.1 ≠ (T b).2.1) (i : Nat) {fs : List Value} (he : R[i]? = some (a, .inr (ci, fs))) (hc : vwCl[ci]? = some (C0, T, N)) (k : Nat) (hk : k < N) (hw : Cond.fieldLink own index ref (T k).2.1 (T k).2.2.1 ∈ BIG) (hs : (T k).1 = ref) (hfin : (T k).2.2.2 = false) {ty : FieldType} {v : Value} (hdsc : parseFieldDescriptor (T k).2.2.1 = some ty) (hn : narrow ty v = v) (hfit : fits ty v = true) (hl : k < fs.length) (hd : decode cc pc = .ok (.putfield index, 3)) (hR : R.set i (a, .inr (ci, fs.set k v)) = R') (kk : BJ G C Q kc ks nL X R' (pc + 3) L st) : BJ G C Q kc ks nL X R pc L (v :: .ref a :: st) := by
  intro H locs ls hP hD hS hL
  refine va_put hC.x hC.b hC.ws hin ty0 hty hnm hC.ow hC.K hP hD hS (X.length + i) (at_app he) hc k hk (hC.w hw) (fun y hy => by rw [← hs]; exact hy) hfin hdsc hn hfit hl hd (fun H1 locs1 hP1 hD1 hS1 => ?_)
  rw [set_app, hR] at hP1 hD1
  exact kk H1 locs1 ls hP1 hD1 hS1 hL
theorem bj_get (hC : CB G C own cc nL lvl) {ref C0 : String} {T : u_T} {N ci index a : Nat} (hin : ∀ w ∈ u_ws C0 T N, w ∈ BIG) (i : Nat) {fs : List Value} (he : R[i]? = some (a, .inr (ci, fs))) (hc : vwCl[ci]? = some (C0, T, N)) (k : Nat) (hk : k < N) (hw : Cond.fieldLink own index ref (T k).2.1 (T k).2.2.1 ∈ BIG) (hs : (T k).1 = ref) {v : Value} (hv : fs[k]? = some v) (hd : decode cc pc = .ok (.getfield index, 3)) (kk : BJ G C Q kc ks nL X R (pc + 3) L (v :: st)) : BJ G C Q kc ks nL X R pc L (.ref a :: st) := by
  intro H locs ls hP hD hS hL
  exact va_get hC.x hC.b hC.ws hin hC.ow hC.K hP (X.length + i) (at_app he) hc k hk (hC.w hw) (fun y hy => by rw [← hs]; exact hy) hv hd (kk H locs ls hP hD hS hL)
theorem bj_alen (hC : CB G C own cc nL lvl) (i t : Nat) {a : Nat} {cA : ClassId} {x : vp_A} (he : R[i]? = some (a, .inl (cA, x))) {ty : FieldType} (ht : (gT G)[t]? = some (cA, ty)) {v : Int32} (hv : Int32.ofNat x.1 = v) (hd : decode cc pc = .ok (.arraylength, 1)) (kk : BJ G C Q kc ks nL X R (pc + 1) L (.int v :: st)) : BJ G C Q kc ks nL X R pc L (.ref a :: st) := by
  intro H locs ls hP hD hS hL
  exact va_alen hC.x hC.b hC.K hP (X.length + i) t (at_app he) ht hv hd (kk H locs ls hP hD hS hL)
theorem bj_iast (hC : CB G C own cc nL lvl) (i : Nat) {a n : Nat} {f : Nat → Int32} (he : R[i]? = some (a, .inl (gcA G 0, n, .inl f))) {j v : Int32} (hin : vp_in j n) (hd : decode cc pc = .ok (.iastore, 1)) (hR : R.set i (a, .inl (gcA G 0, n, .inl (upd f j.toNatClampNeg v))) = R') (kk : BJ G C Q kc ks nL X R' (pc + 1) L st) : BJ G C Q kc ks nL X R pc L (.int v :: .int j :: .ref a :: st) := by
  intro H locs ls hP hD hS hL
  refine va_iast hC.x hC.b hC.K hP hD hS (X.length + i) 0 (at_app he) rfl hin hd (fun H1 locs1 hP1 hD1 hS1 => ?_)
  rw [set_app, hR] at hP1 hD1
  exact kk H1 locs1 ls hP1 hD1 hS1 hL
theorem bj_astq (hC : CB G C own cc nL lvl) (i i2 : Nat) {a n v : Nat} {vs : List Value} {f : Nat → Option Nat} (he : R[i]? = some (a, .inl (gcA G 3, n, .inr (.inr (.inr (.inr f)))))) (hv : R[i2]? = some (v, .inr (2, vs))) {j : Int32} (hin : vp_in j n) (hd : decode cc pc = .ok (.aastore, 1)) (hR : R.set i (a, .inl (gcA G 3, n, .inr (.inr (.inr (.inr (va_up f j.toNatClampNeg (some v))))))) = R') (kk : BJ G C Q kc ks nL X R' (pc + 1) L st) : BJ G C Q kc ks nL X R pc L (.ref v :: .int j :: .ref a :: st) := by
  intro H locs ls hP hD hS hL
  refine va_astq hC.x hC.b hC.K hP hD hS (X.length + i) 3 (X.length + i2) 2 (at_app he) rfl (at_app hv) rfl hin hd (fun H1 locs1 hP1 hD1 hS1 => ?_)
  rw [set_app, hR] at hP1 hD1
  exact kk H1 locs1 ls hP1 hD1 hS1 hL
theorem bj_wide {k' n' : Nat} (h1 : kc ≤ k') (h2 : ks ≤ n') (k : BJ G C Q k' n' nL X R pc L st) : BJ G C Q kc ks nL X R pc L st := fun H locs ls hP hD hS hL => W.widen h1 h2 (k H locs ls hP hD hS hL)
theorem bj_ret (hC : CB G C own cc nL lvl) {Post : va_W → Prop} {mc ms : Nat} (hrt : (cMe C).sig.returnType = none) (hd : decode cc pc = .ok (.return_, 1)) (hp : Post (X ++ R)) : BJ G C (MQ (cBel C) (qcB G Post) (cArgs C) (cS C) mc ms (gA G)) mc ms nL X R pc L [] := by
  intro H locs ls hP hD hS hL
  exact W.vret hC.x hC.b hrt (fun t ht hW => ⟨rfl, ⟨X ++ R, hp, by rw [ht]; exact hP, hD⟩, hS.F ht⟩) hS.2.2 hd hC.lk
/-- a constructor called on the newest cell -/
theorem bj_run (hC : CB G C own cc nL lvl) {y : MethodName} {bytes : ByteArray} {maxL index n lv mc ms q : Nat} {As : List Value} {Post : va_W → Prop} {ls : Array Slot} {rest : List Value} {H : Heap} {locs : List Loc} (hr : RX C H locs kc ks mc ms (F0 (cM C) pc ls (As.reverse ++ .ref q :: rest)) rest (qcB G Post (Value.ref q :: As).toArray) (gA G)) (hS : va_S (gA G) (cS C).heap H locs)
    (kk : ∀ ws', Post ws' → ∀ (H1 : Heap) (locs1 : List Loc), va_P (gD G) vwCl ws' H1 → va_D (gA G) ws' → va_S (gA G) (cS C).heap H1 locs1 → WX C H1 locs1 (kc + mc) (ks + ms) Q (F0 (cM C) (pc + 3) ls rest)) : WX C H locs kc ks Q (F0 (cM C) pc ls (As.reverse ++ .ref q :: rest)) := by
  intro T hT X0
  obtain ⟨v, st₀, t, T', L', h0, X', hL', e1, e2, hq, hst⟩ := hr T hT X0
  obtain ⟨hv, ⟨ws', hp, hP1, hD1⟩, hF⟩ := hq
  cases hv
  obtain ⟨t2, a1, b1⟩ := kk ws' hp T'.heap (locs ++ L') (by rw [e1]; exact hP1) hD1 (keepS hS h0 e1 hF hL') T' rfl X'
  exact ⟨t2, hst t2 a1, b1⟩
theorem PB_of (hC : CB G C own cc nL lvl) {ws : va_W} {H : Heap} {locs : List Loc} (hP : va_P (gD G) vwCl ws H) (hD : va_D (gA G) ws) (hS : va_S (gA G) (cS C).heap H locs) {U : State} (hU : U.heap = H) (hW : (cS C).WarmedH U.vm) : PB G ws U :=
  ⟨by rw [hU]; exact hP, hD, va_K.moved hW.alike hC.K, Nat.le_trans hC.lo (by rw [hU]; exact hS.1), fun w hw ho => oth_warm ho hW (hC.nw w hw ho), va_AO.moved hW.alike hC.ao⟩
theorem bj_callN (hC : CB G C own cc nL lvl) {host : String} {y : MethodName} {bytes : ByteArray} {maxL index n lv mc ms q : Nat} {As : List Value} {Post : va_W → Prop} {rest : List Value} (hl : Cond.methodLinkNest own index y host ∈ lw_tbl) (hcd : Cond.code y bytes maxL none ∈ BIG) (hini : Cond.initialized y.cls ∈ BIG) (him : Cond.instanceMethod y ∈ BIG) (hy : y.name = "<init>") (hdy : y.cls ≠ "java/lang/invoke/MethodHandle" ∧ y.cls ≠ "java/lang/invoke/VarHandle" ∧ (parseMethodDescriptor y.desc).map (fun d => d.parameters.length) = some n) (hmx : maxL ≤ 40) (hlv : lv < lvl) (hM : CN G C.2.1 y (.code y bytes maxL none) lv mc ms (.ref q :: As) (X ++ R) Post) (hn : As.length = n) (hr8 : (rest.map fun v => v.category).sum ≤ 8) (hkc : kc + mc ≤ (cR C).cells) (hks : ks + ms ≤ (cR C).slots) (hd : decode cc pc = .ok (.invokespecial index, 3))
    (hp : ∀ ws', Post ws' → ∃ R', ws' = X ++ R' ∧ BJ G C Q (kc + mc) (ks + ms) nL X R' (pc + 3) L rest) : BJ G C Q kc ks nL X R pc L (As.reverse ++ .ref q :: rest) := by
  intro H locs ls hP hD hS hL
  have hr := hC.rm
  refine bj_run (y := y) (bytes := bytes) (maxL := maxL) (index := index) (n := n) (lv := lv) hC (va_runIN (nL := nL) (Ts := BIG) (own := own) (host := host) (rm := rmB lv mc ms) ⟨hC.x, hC.b, hC.ml, hC.ow, hC.ws⟩ hM ⟨va_cnB n hC.ws (big_goodB _ hcd) rfl rfl rfl (hC.nw _ hl rfl) (hC.w hini) hdy ⟨by show 2 * lv + 1 ≤ _; omega, by show 8 + (maxL + 11) + 64 * lv ≤ _; omega⟩, hy, hC.w him⟩ ⟨PB_blind _, fun U hU hW => ⟨rfl, PB_of hC hP hD hS hU hW⟩⟩ rfl hn hL.1 rfl (lv_room hr8) hd ⟨hkc, hks⟩) hS (fun ws' hw H1 locs1 hP1 hD1 hS1 => ?_)
  obtain ⟨R1, e, kk⟩ := hp ws' hw
  subst e
  exact kk H1 locs1 ls hP1 hD1 hS1 hL
theorem bj_callI (hC : CB G C own cc nL lvl) {y : MethodName} {bytes : ByteArray} {maxL index n lv mc ms q : Nat} {As : List Value} {Post : va_W → Prop} {rest : List Value} (hl : Cond.methodLink own index y ∈ BIG) (hcd : Cond.code y bytes maxL none ∈ BIG) (hini : Cond.initialized y.cls ∈ BIG) (him : Cond.instanceMethod y ∈ BIG) (hy : y.name = "<init>") (hdy : y.cls ≠ "java/lang/invoke/MethodHandle" ∧ y.cls ≠ "java/lang/invoke/VarHandle" ∧ (parseMethodDescriptor y.desc).map (fun d => d.parameters.length) = some n) (hmx : maxL ≤ 40) (hlv : lv < lvl) (hM : CN G C.2.1 y (.code y bytes maxL none) lv mc ms (.ref q :: As) (X ++ R) Post) (hn : As.length = n) (hr8 : (rest.map fun v => v.category).sum ≤ 8) (hkc : kc + mc ≤ (cR C).cells) (hks : ks + ms ≤ (cR C).slots) (hd : decode cc pc = .ok (.invokespecial index, 3))
    (hp : ∀ ws', Post ws' → ∃ R', ws' = X ++ R' ∧ BJ G C Q (kc + mc) (ks + ms) nL X R' (pc + 3) L rest) : BJ G C Q kc ks nL X R pc L (As.reverse ++ .ref q :: rest) := by
  intro H locs ls hP hD hS hL
  have hr := hC.rm
  refine bj_run (y := y) (bytes := bytes) (maxL := maxL) (index := index) (n := n) (lv := lv) hC (va_runI (nL := nL) (Ts := BIG) (own := own) (rm := rmB lv mc ms) ⟨hC.x, hC.b, hC.ml, hC.ow, hC.ws⟩ hM ⟨callB_of n hC.ws (big_goodB _ hcd) rfl rfl rfl (hC.w hini) (hC.w hl) hdy ⟨by show 2 * lv + 1 ≤ _; omega, by show 8 + (maxL + 11) + 64 * lv ≤ _; omega⟩, hy, hC.w him⟩ ⟨PB_blind _, fun U hU hW => ⟨rfl, PB_of hC hP hD hS hU hW⟩⟩ rfl hn hL.1 rfl (lv_room hr8) hd ⟨hkc, hks⟩) hS (fun ws' hw H1 locs1 hP1 hD1 hS1 => ?_)
  obtain ⟨R1, e, kk⟩ := hp ws' hw
  subst e
  exact kk H1 locs1 ls hP1 hD1 hS1 hL
end BJR
