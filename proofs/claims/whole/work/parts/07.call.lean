/-! ===== contracts of our methods, and their calls ===== -/
/-- an int (a truth value, a char) and the memory behind -/
def CI (G : GG) (l : Launch) (y : MethodName) (c0 : Cond) (lvl : Nat) (vs : List Value) (μ : Mem) (E : Option (Int32 × Mem)) : Prop := ∀ x, E = some x → Met l y (c0 :: BIG) (rmL lvl) (va_Pc vs (Inv G μ)) (qcI G x) 0 0 (gA G)
/-- an int, the memory as it was -/
def CR (G : GG) (l : Launch) (y : MethodName) (c0 : Cond) (lvl : Nat) (vs : List Value) (μ : Mem) (E : Option Int32) : Prop := ∀ x, E = some x → Met l y (c0 :: BIG) (rmL lvl) (va_Pc vs (Inv G μ)) (qcI G (x, μ)) 0 0 (gA G)
/-- a long, the memory as it was -/
def CL (G : GG) (l : Launch) (y : MethodName) (c0 : Cond) (lvl : Nat) (vs : List Value) (μ : Mem) (E : Option Int64) : Prop := ∀ x, E = some x → Met l y (c0 :: BIG) (rmL lvl) (va_Pc vs (Inv G μ)) (qcL G (x, μ)) 0 0 (gA G)
/-- nothing answered -/
def CV (G : GG) (l : Launch) (y : MethodName) (c0 : Cond) (lvl : Nat) (vs : List Value) (μ : Mem) (E : Option Mem) : Prop := ∀ x, E = some x → Met l y (c0 :: BIG) (rmL lvl) (va_Pc vs (Inv G μ)) (qcV G x) 0 0 (gA G)
abbrev qR (G : GG) (C : CX) (kc ks : Nat) (μ : Mem) (x : Int32) : State → Prop := qI G C kc ks (x, μ)
abbrev qM (G : GG) (C : CX) (kc ks : Nat) (μ : Mem) (x : Int64) : State → Prop := qL G C kc ks (x, μ)
/-- a method's frame at its entry -/
theorem ct_frame {G : GG} {l : Launch} {y : MethodName} {cc : ByteArray} {nL : Nat} {ret : Option FieldType} {lvl : Nat} {vs : List Value} {L0 : List (Option Value)} {μ : Mem} {Qc : Array Value → State → Outcome → State → Prop}
    {own : String} (ho : y.cls = own) (hy : plainName y.cls = true) (hL : lv_args 0 vs = asc 0 L0) (hn : (lg_sl vs).length ≤ nL)
    (body : ∀ C : CX, C.2.1 = l → CO G C own cc nL lvl 0 0 ret → ∀ (ls : Array Slot), lvp ls nL L0 → va_P (gD G) vwCl (wsOf G μ) (cS C).heap → WX C (cS C).heap [] 0 0 (MQ (cBel C) Qc (cArgs C) (cS C) 0 0 (gA G)) (F0 (cM C) 0 ls [])) : Met l y (Cond.code y cc nL ret :: BIG) (rmL lvl) (va_Pc vs (Inv G μ)) Qc 0 0 (gA G) := by
  refine Met.ofW (cc := cc) (maxL := nL) (ret := ret) hy rfl ?_
  intro p e s m args below meth c s₁ B hml hv
  obtain ⟨rfl, hP, hK, hI⟩ := hv
  have hts := atoms_spec (ws := Cond.code y cc nL ret :: BIG) B.pre
  have hC : CO G (p, l, e, rmL lvl, s, m, vs.toArray, below, meth, c) own cc nL lvl 0 0 ret :=
    ⟨B.exec, B.bytes, hml, by rw [← ho]; exact findClass_of_methodNamed B.named, fun w hw => hts w (List.mem_cons_of_mem _ hw), B.notSynchronized, hK, hI, ⟨Nat.le_refl _, Nat.le_refl _, Nat.le_refl _, Nat.le_refl _⟩, B.returns⟩
  have hl := lv_entry vs (n := nL) hn
  rw [hL] at hl
  rw [lg_entry_eq]
  exact body (p, l, e, rmL lvl, s, m, vs.toArray, below, meth, c) rfl hC _ hl hP

/-- a method's frame at its entry -/
theorem ct_frameF {G : GG} {l : Launch} {y : MethodName} {cc : ByteArray} {nL : Nat} {ret : Option FieldType} {lvl : Nat} {vs : List Value} {L0 : List (Option Value)} {μ : Mem} {Qc : Array Value → State → Outcome → State → Prop}
    {own : String} (ho : y.cls = own) (hy : plainFor y = true) (hL : lv_args 0 vs = asc 0 L0) (hn : (lg_sl vs).length ≤ nL)
    (body : ∀ C : CX, C.2.1 = l → CO G C own cc nL lvl 0 0 ret → ∀ (ls : Array Slot), lvp ls nL L0 → va_P (gD G) vwCl (wsOf G μ) (cS C).heap → WX C (cS C).heap [] 0 0 (MQ (cBel C) Qc (cArgs C) (cS C) 0 0 (gA G)) (F0 (cM C) 0 ls [])) : Met l y (Cond.code y cc nL ret :: BIG) (rmL lvl) (va_Pc vs (Inv G μ)) Qc 0 0 (gA G) := by
  refine va_MetF (cc := cc) (maxL := nL) (ret := ret) hy rfl ?_
  intro p e s m args below meth c s₁ B hml hv
  obtain ⟨rfl, hP, hK, hI⟩ := hv
  have hts := atoms_spec (ws := Cond.code y cc nL ret :: BIG) B.pre
  have hC : CO G (p, l, e, rmL lvl, s, m, vs.toArray, below, meth, c) own cc nL lvl 0 0 ret :=
    ⟨B.exec, B.bytes, hml, by rw [← ho]; exact findClass_of_methodNamed B.named, fun w hw => hts w (List.mem_cons_of_mem _ hw), B.notSynchronized, hK, hI, ⟨Nat.le_refl _, Nat.le_refl _, Nat.le_refl _, Nat.le_refl _⟩, B.returns⟩
  have hl := lv_entry vs (n := nL) hn
  rw [hL] at hl
  rw [lg_entry_eq]
  exact body (p, l, e, rmL lvl, s, m, vs.toArray, below, meth, c) rfl hC _ hl hP

theorem CI.of {G : GG} {l : Launch} {y : MethodName} {cc : ByteArray} {nL : Nat} {ret : Option FieldType} {lvl : Nat} {vs : List Value} {L0 : List (Option Value)} {μ : Mem} {E : Option (Int32 × Mem)} {own : String} (ho : y.cls = own) (hy : plainName y.cls = true) (hL : lv_args 0 vs = asc 0 L0) (hn : (lg_sl vs).length ≤ nL)
    (body : ∀ C : CX, C.2.1 = l → CO G C own cc nL lvl 0 0 ret → AW G C (qI G C 0 0) 0 0 nL μ 0 L0 [] E) : CI G l y (.code y cc nL ret) lvl vs μ E :=
  fun x hx => ct_frame (L0 := L0) ho hy hL hn (fun C hl hC ls h1 h2 => body C hl hC x hx _ _ ls h2 va_S.rf h1)
theorem CR.of {G : GG} {l : Launch} {y : MethodName} {cc : ByteArray} {nL : Nat} {ret : Option FieldType} {lvl : Nat} {vs : List Value} {L0 : List (Option Value)} {μ : Mem} {E : Option Int32} {own : String} (ho : y.cls = own) (hy : plainName y.cls = true) (hL : lv_args 0 vs = asc 0 L0) (hn : (lg_sl vs).length ≤ nL)
    (body : ∀ C : CX, C.2.1 = l → CO G C own cc nL lvl 0 0 ret → AW G C (qR G C 0 0 μ) 0 0 nL μ 0 L0 [] E) : CR G l y (.code y cc nL ret) lvl vs μ E :=
  fun x hx => ct_frame (L0 := L0) ho hy hL hn (fun C hl hC ls h1 h2 => body C hl hC x hx _ _ ls h2 va_S.rf h1)
theorem CL.of {G : GG} {l : Launch} {y : MethodName} {cc : ByteArray} {nL : Nat} {ret : Option FieldType} {lvl : Nat} {vs : List Value} {L0 : List (Option Value)} {μ : Mem} {E : Option Int64} {own : String} (ho : y.cls = own) (hy : plainName y.cls = true) (hL : lv_args 0 vs = asc 0 L0) (hn : (lg_sl vs).length ≤ nL)
    (body : ∀ C : CX, C.2.1 = l → CO G C own cc nL lvl 0 0 ret → AW G C (qM G C 0 0 μ) 0 0 nL μ 0 L0 [] E) : CL G l y (.code y cc nL ret) lvl vs μ E :=
  fun x hx => ct_frame (L0 := L0) ho hy hL hn (fun C hl hC ls h1 h2 => body C hl hC x hx _ _ ls h2 va_S.rf h1)
theorem CV.of {G : GG} {l : Launch} {y : MethodName} {cc : ByteArray} {nL : Nat} {ret : Option FieldType} {lvl : Nat} {vs : List Value} {L0 : List (Option Value)} {μ : Mem} {E : Option Mem} {own : String} (ho : y.cls = own) (hy : plainName y.cls = true) (hL : lv_args 0 vs = asc 0 L0) (hn : (lg_sl vs).length ≤ nL)
    (body : ∀ C : CX, C.2.1 = l → CO G C own cc nL lvl 0 0 ret → AW G C (qV G C 0 0) 0 0 nL μ 0 L0 [] E) : CV G l y (.code y cc nL ret) lvl vs μ E :=
  fun x hx => ct_frame (L0 := L0) ho hy hL hn (fun C hl hC ls h1 h2 => body C hl hC x hx _ _ ls h2 va_S.rf h1)
theorem CR.ofF {G : GG} {l : Launch} {y : MethodName} {cc : ByteArray} {nL : Nat} {ret : Option FieldType} {lvl : Nat} {vs : List Value} {L0 : List (Option Value)} {μ : Mem} {E : Option Int32} {own : String} (ho : y.cls = own) (hy : plainFor y = true) (hL : lv_args 0 vs = asc 0 L0) (hn : (lg_sl vs).length ≤ nL)
    (body : ∀ C : CX, C.2.1 = l → CO G C own cc nL lvl 0 0 ret → AW G C (qR G C 0 0 μ) 0 0 nL μ 0 L0 [] E) : CR G l y (.code y cc nL ret) lvl vs μ E :=
  fun x hx => ct_frameF (L0 := L0) ho hy hL hn (fun C hl hC ls h1 h2 => body C hl hC x hx _ _ ls h2 va_S.rf h1)
section RUNU
variable {G : GG} {C : CX} {own : String} {cc : ByteArray} {nL lvl kc ks : Nat} {ret : Option FieldType} {Q : State → Prop} {μ μ' : Mem} {pc : Nat} {st0 rest : List Value} {H : Heap} {locs : List Loc} {ls : Array Slot}
abbrev RX (C : CX) (H : Heap) (locs : List Loc) (k n mc ms : Nat) (g : JFrame) (rest : List Value) (Qa : State → Outcome → State → Prop) (free : Addr → Prop) : Prop := va_Run C.1 C.2.1 C.2.2.1 (cR C) (cS C) (cM C) (cArgs C) (cBel C) (cMe C) (cC C) H locs k n mc ms g rest Qa free
theorem run_use {Qa : State → Outcome → State → Prop} {vl : List Value} (hr : RX C H locs kc ks 0 0 (F0 (cM C) pc ls st0) rest Qa (gA G)) (hS : va_S (gA G) (cS C).heap H locs)
    (hQ : ∀ st v t, Qa st (.returned v) t → v.toList = vl ∧ va_P (gD G) vwCl (wsOf G μ') t.heap ∧ va_F (gA G) st t)
    (kk : ∀ (H1 : Heap) (locs1 : List Loc), va_P (gD G) vwCl (wsOf G μ') H1 → va_S (gA G) (cS C).heap H1 locs1 → WX C H1 locs1 kc ks Q (F0 (cM C) (pc + 3) ls (vl ++ rest))) : WX C H locs kc ks Q (F0 (cM C) pc ls st0) := by
  intro T hT X
  obtain ⟨v, st₀, t, T', L, h0, X', hL, e1, e2, hq, hst⟩ := hr T hT X
  obtain ⟨hv, hP, hz, hk⟩ := hQ st₀ v t hq
  rw [h0] at hz hk
  obtain ⟨t2, a1, b1⟩ := kk T'.heap (locs ++ L) (by rw [e1]; exact hP) ⟨Nat.le_trans hS.1 (by rw [e1]; exact hz), fun q h1 h2 => by rw [e1, hk q (Nat.lt_of_lt_of_le h1 hS.1) h2]; exact hS.2.1 q h1 h2, fun q hq => by
      rcases List.mem_append.mp hq with h | h
      · exact hS.2.2 q h
      · exact hL q h⟩ T' rfl X'
  rw [← hv] at a1
  exact ⟨t2, hst t2 a1, b1⟩
/-- what a callee may take as given, here -/
theorem Inv_of (hC : CO G C own cc nL lvl kc ks ret) (hP : va_P (gD G) vwCl (wsOf G μ) H) (hS : va_S (gA G) (cS C).heap H locs) {U : State} (hU : U.heap = H) (hW : (cS C).WarmedH U.vm) : Inv G μ U :=
  ⟨by rw [hU]; exact hP, va_K.moved hW.alike hC.K, IV_moved hC.iv hW (by rw [hU]; exact hS.1) (fun a h1 h2 => by rw [hU]; exact hS.2.1 a h1 h2)⟩
variable {y : MethodName} {bytes : ByteArray} {maxL index n lv : Nat} {rt : Option FieldType} {Qc : Array Value → State → Outcome → State → Prop} {As : List Value} {a : Nat}
theorem cbx (hC : CO G C own cc nL lvl kc ks ret) (hl : Cond.methodLink own index y ∈ BIG) (hcd : Cond.code y bytes maxL rt ∈ BIG) (hini : Cond.initialized y.cls ∈ BIG) (hd : y.cls ≠ "java/lang/invoke/MethodHandle" ∧ y.cls ≠ "java/lang/invoke/VarHandle" ∧ (parseMethodDescriptor y.desc).map (fun d => d.parameters.length) = some n) (hmx : maxL ≤ 40) (hlv : lv < lvl) :
    CallB (cR C) (cS C) (cArgs C) own index y bytes maxL rt (Cond.code y bytes maxL rt :: BIG) (rmL lv) 0 0 n := by
  have hr := hC.rm
  exact callB_of n hC.ws (big_goodB _ hcd) rfl rfl rfl (hC.w hini) (hC.w hl) hd ⟨by show 2 * lv + 1 ≤ _; omega, by show 8 + (maxL + 11) + 64 * lv ≤ _; omega⟩
theorem runV (hC : CO G C own cc nL lvl kc ks ret) (hB : MB y bytes maxL rt n) (hl : Cond.methodLink own index y ∈ BIG) (hlv : lv < lvl) (hM : Met C.2.1 y (Cond.code y bytes maxL rt :: BIG) (rmL lv) (va_Pc (.ref a :: As) (Inv G μ)) Qc 0 0 (gA G)) (hP : va_P (gD G) vwCl (wsOf G μ) H) (hS : va_S (gA G) (cS C).heap H locs)
    (hrc : ∃ cell : Cell, H[a]? = some cell ∧ cell.vm.isStatics = false ∧ (cS C).vm.findClass y.cls = some cell.cls) (hn : As.length = n) (hls : ls.size = nL) (hr8 : (rest.map fun v => v.category).sum ≤ 8) (hd : decode cc pc = .ok (.invokevirtual index, 3)) : RX C H locs kc ks 0 0 (F0 (cM C) pc ls (As.reverse ++ .ref a :: rest)) rest (Qc (Value.ref a :: As).toArray) (gA G) :=
  va_runV (nL := nL) (Ts := BIG) (own := own) (C := y.cls) ⟨hC.x, hC.b, hC.ml, hC.ow, hC.ws⟩ hM ⟨cbx hC hl hB.1 hB.2.2.2.1 hB.2.2.2.2.1 hB.2.2.2.2.2 hlv, hC.w hB.2.1, hC.w hB.2.2.1⟩ ⟨Inv_blind _, hrc, fun U hU hW => ⟨rfl, Inv_of hC hP hS hU hW⟩⟩ rfl hn hls rfl (lv_room hr8) hd ⟨hC.rm.2.2.1, hC.rm.2.2.2⟩
theorem runS (hC : CO G C own cc nL lvl kc ks ret) (hB : MS y bytes maxL rt n) (hl : Cond.methodLink own index y ∈ BIG) (hlv : lv < lvl) (hM : Met C.2.1 y (Cond.code y bytes maxL rt :: BIG) (rmL lv) (va_Pc As (Inv G μ)) Qc 0 0 (gA G)) (hP : va_P (gD G) vwCl (wsOf G μ) H) (hS : va_S (gA G) (cS C).heap H locs)
    (hn : As.length = n) (hls : ls.size = nL) (hr8 : (rest.map fun v => v.category).sum ≤ 8) (hd : decode cc pc = .ok (.invokestatic index, 3)) : RX C H locs kc ks 0 0 (F0 (cM C) pc ls (As.reverse ++ rest)) rest (Qc As.toArray) (gA G) :=
  va_runS (nL := nL) (Ts := BIG) (own := own) ⟨hC.x, hC.b, hC.ml, hC.ow, hC.ws⟩ hM ⟨cbx hC hl hB.1 hB.2.2.1 hB.2.2.2.1 hB.2.2.2.2 hlv, hC.w hB.2.1⟩ ⟨Inv_blind _, fun U hU hW => ⟨rfl, Inv_of hC hP hS hU hW⟩⟩ rfl hn hls rfl (lv_room hr8) hd ⟨hC.rm.2.2.1, hC.rm.2.2.2⟩
theorem runN {host : String} (hC : CO G C own cc nL lvl kc ks ret) (hB : MS y bytes maxL rt n) (hl : Cond.methodLinkNest own index y host ∈ lw_tbl) (hlv : lv < lvl) (hM : Met C.2.1 y (Cond.code y bytes maxL rt :: BIG) (rmL lv) (va_Pc As (Inv G μ)) Qc 0 0 (gA G)) (hP : va_P (gD G) vwCl (wsOf G μ) H) (hS : va_S (gA G) (cS C).heap H locs)
    (hn : As.length = n) (hls : ls.size = nL) (hr8 : (rest.map fun v => v.category).sum ≤ 8) (hd : decode cc pc = .ok (.invokestatic index, 3)) : RX C H locs kc ks 0 0 (F0 (cM C) pc ls (As.reverse ++ rest)) rest (Qc As.toArray) (gA G) := by
  have hr := hC.rm
  have hr1 := hB.2.2.2.2
  exact va_runSN (nL := nL) (Ts := BIG) (own := own) ⟨hC.x, hC.b, hC.ml, hC.ow, hC.ws⟩ hM ⟨va_cnB n hC.ws (big_goodB _ hB.1) rfl rfl rfl (hC.iv.2.2.2.1 _ hl rfl) (hC.w hB.2.2.1) hB.2.2.2.1 ⟨by show 2 * lv + 1 ≤ _; omega, by show 8 + (maxL + 11) + 64 * lv ≤ _; omega⟩, hC.w hB.2.1, trivial⟩ ⟨Inv_blind _, fun U hU hW => ⟨rfl, Inv_of hC hP hS hU hW⟩⟩ rfl hn hls rfl (lv_room hr8) hd ⟨hC.rm.2.2.1, hC.rm.2.2.2⟩
/-- an object of the world is of its class -/
theorem rcv (hC : CO G C own cc nL lvl kc ks ret) {g j ci N : Nat} {C0 : String} {T : u_T} {fs : List Value} (hv : vld g j) (he : ent G g j (μ g j) = .inr (ci, fs)) (hc : vwCl[ci]? = some (C0, T, N)) (hP : va_P (gD G) vwCl (wsOf G μ) H) : ∃ cell : Cell, H[gad G g j]? = some cell ∧ cell.vm.isStatics = false ∧ (cS C).vm.findClass C0 = some cell.cls := by
  obtain ⟨q, -, hq⟩ := ws_at G μ hv
  rw [he] at hq
  exact va_recv hC.K hP hc hq
end RUNU
section CALLS
variable {τ : Type} {G : GG} {C : CX} {own : String} {cc : ByteArray} {nL lvl kc ks : Nat} {ret : Option FieldType} {Q : τ → State → Prop} {μ : Mem} {pc : Nat} {L : List (Option Value)} {rest : List Value} {y : MethodName} {bytes : ByteArray} {maxL index n lv : Nat} {rt : Option FieldType} {As : List Value}
theorem aw_callVI {g j ci N : Nat} {T : u_T} {fs : List Value} {E1 : Option (Int32 × Mem)} {k : Int32 × Mem → Option τ} (hC : CO G C own cc nL lvl kc ks ret) (hB : MB y bytes maxL rt n) (hl : Cond.methodLink own index y ∈ BIG) (hlv : lv < lvl) (hM : CI G C.2.1 y (.code y bytes maxL rt) lv (.ref (gad G g j) :: As) μ E1) (hv : vld g j) (he : ent G g j (μ g j) = .inr (ci, fs)) (hc : vwCl[ci]? = some (y.cls, T, N)) (hn : As.length = n) (hr8 : (rest.map fun v => v.category).sum ≤ 8) (hd : decode cc pc = .ok (.invokevirtual index, 3))
    (kk : ∀ q, AW G C Q kc ks nL q.2 (pc + 3) L (.int q.1 :: rest) (k q)) : AW G C Q kc ks nL μ pc L (As.reverse ++ .ref (gad G g j) :: rest) (E1.bind k) := by
  intro x hx H locs ls hP hS hL
  cases hE : E1 with
  | none => rw [hE] at hx; cases hx
  | some q =>
    rw [hE] at hx
    refine run_use (μ' := q.2) (vl := [.int q.1]) (runV hC hB hl hlv (hM q hE) hP hS (rcv hC hv he hc hP) hn hL.1 hr8 hd) hS (fun st v t h => ⟨by rw [Outcome.returned.inj h.1]; rfl, h.2.1, h.2.2⟩) (fun H1 locs1 hP1 hS1 => ?_)
    exact kk q x hx H1 locs1 ls hP1 hS1 hL
theorem aw_callSI {E1 : Option (Int32 × Mem)} {k : Int32 × Mem → Option τ} (hC : CO G C own cc nL lvl kc ks ret) (hB : MS y bytes maxL rt n) (hl : Cond.methodLink own index y ∈ BIG) (hlv : lv < lvl) (hM : CI G C.2.1 y (.code y bytes maxL rt) lv As μ E1) (hn : As.length = n) (hr8 : (rest.map fun v => v.category).sum ≤ 8) (hd : decode cc pc = .ok (.invokestatic index, 3))
    (kk : ∀ q, AW G C Q kc ks nL q.2 (pc + 3) L (.int q.1 :: rest) (k q)) : AW G C Q kc ks nL μ pc L (As.reverse ++ rest) (E1.bind k) := by
  intro x hx H locs ls hP hS hL
  cases hE : E1 with
  | none => rw [hE] at hx; cases hx
  | some q =>
    rw [hE] at hx
    refine run_use (μ' := q.2) (vl := [.int q.1]) (runS hC hB hl hlv (hM q hE) hP hS hn hL.1 hr8 hd) hS (fun st v t h => ⟨by rw [Outcome.returned.inj h.1]; rfl, h.2.1, h.2.2⟩) (fun H1 locs1 hP1 hS1 => ?_)
    exact kk q x hx H1 locs1 ls hP1 hS1 hL
theorem aw_callNI {host : String} {E1 : Option (Int32 × Mem)} {k : Int32 × Mem → Option τ} (hC : CO G C own cc nL lvl kc ks ret) (hB : MS y bytes maxL rt n) (hl : Cond.methodLinkNest own index y host ∈ lw_tbl) (hlv : lv < lvl) (hM : CI G C.2.1 y (.code y bytes maxL rt) lv As μ E1) (hn : As.length = n) (hr8 : (rest.map fun v => v.category).sum ≤ 8) (hd : decode cc pc = .ok (.invokestatic index, 3))
    (kk : ∀ q, AW G C Q kc ks nL q.2 (pc + 3) L (.int q.1 :: rest) (k q)) : AW G C Q kc ks nL μ pc L (As.reverse ++ rest) (E1.bind k) := by
  intro x hx H locs ls hP hS hL
  cases hE : E1 with
  | none => rw [hE] at hx; cases hx
  | some q =>
    rw [hE] at hx
    refine run_use (μ' := q.2) (vl := [.int q.1]) (runN hC hB hl hlv (hM q hE) hP hS hn hL.1 hr8 hd) hS (fun st v t h => ⟨by rw [Outcome.returned.inj h.1]; rfl, h.2.1, h.2.2⟩) (fun H1 locs1 hP1 hS1 => ?_)
    exact kk q x hx H1 locs1 ls hP1 hS1 hL
theorem aw_callVR {g j ci N : Nat} {T : u_T} {fs : List Value} {E1 : Option Int32} {k : Int32 → Option τ} (hC : CO G C own cc nL lvl kc ks ret) (hB : MB y bytes maxL rt n) (hl : Cond.methodLink own index y ∈ BIG) (hlv : lv < lvl) (hM : CR G C.2.1 y (.code y bytes maxL rt) lv (.ref (gad G g j) :: As) μ E1) (hv : vld g j) (he : ent G g j (μ g j) = .inr (ci, fs)) (hc : vwCl[ci]? = some (y.cls, T, N)) (hn : As.length = n) (hr8 : (rest.map fun v => v.category).sum ≤ 8) (hd : decode cc pc = .ok (.invokevirtual index, 3))
    (kk : ∀ q, AW G C Q kc ks nL μ (pc + 3) L (.int q :: rest) (k q)) : AW G C Q kc ks nL μ pc L (As.reverse ++ .ref (gad G g j) :: rest) (E1.bind k) := by
  intro x hx H locs ls hP hS hL
  cases hE : E1 with
  | none => rw [hE] at hx; cases hx
  | some q =>
    rw [hE] at hx
    refine run_use (μ' := μ) (vl := [.int q]) (runV hC hB hl hlv (hM q hE) hP hS (rcv hC hv he hc hP) hn hL.1 hr8 hd) hS (fun st v t h => ⟨by rw [Outcome.returned.inj h.1]; rfl, h.2.1, h.2.2⟩) (fun H1 locs1 hP1 hS1 => ?_)
    exact kk q x hx H1 locs1 ls hP1 hS1 hL
theorem aw_callSR {E1 : Option Int32} {k : Int32 → Option τ} (hC : CO G C own cc nL lvl kc ks ret) (hB : MS y bytes maxL rt n) (hl : Cond.methodLink own index y ∈ BIG) (hlv : lv < lvl) (hM : CR G C.2.1 y (.code y bytes maxL rt) lv As μ E1) (hn : As.length = n) (hr8 : (rest.map fun v => v.category).sum ≤ 8) (hd : decode cc pc = .ok (.invokestatic index, 3))
    (kk : ∀ q, AW G C Q kc ks nL μ (pc + 3) L (.int q :: rest) (k q)) : AW G C Q kc ks nL μ pc L (As.reverse ++ rest) (E1.bind k) := by
  intro x hx H locs ls hP hS hL
  cases hE : E1 with
  | none => rw [hE] at hx; cases hx
  | some q =>
    rw [hE] at hx
    refine run_use (μ' := μ) (vl := [.int q]) (runS hC hB hl hlv (hM q hE) hP hS hn hL.1 hr8 hd) hS (fun st v t h => ⟨by rw [Outcome.returned.inj h.1]; rfl, h.2.1, h.2.2⟩) (fun H1 locs1 hP1 hS1 => ?_)
    exact kk q x hx H1 locs1 ls hP1 hS1 hL
theorem aw_callNR {host : String} {E1 : Option Int32} {k : Int32 → Option τ} (hC : CO G C own cc nL lvl kc ks ret) (hB : MS y bytes maxL rt n) (hl : Cond.methodLinkNest own index y host ∈ lw_tbl) (hlv : lv < lvl) (hM : CR G C.2.1 y (.code y bytes maxL rt) lv As μ E1) (hn : As.length = n) (hr8 : (rest.map fun v => v.category).sum ≤ 8) (hd : decode cc pc = .ok (.invokestatic index, 3))
    (kk : ∀ q, AW G C Q kc ks nL μ (pc + 3) L (.int q :: rest) (k q)) : AW G C Q kc ks nL μ pc L (As.reverse ++ rest) (E1.bind k) := by
  intro x hx H locs ls hP hS hL
  cases hE : E1 with
  | none => rw [hE] at hx; cases hx
  | some q =>
    rw [hE] at hx
    refine run_use (μ' := μ) (vl := [.int q]) (runN hC hB hl hlv (hM q hE) hP hS hn hL.1 hr8 hd) hS (fun st v t h => ⟨by rw [Outcome.returned.inj h.1]; rfl, h.2.1, h.2.2⟩) (fun H1 locs1 hP1 hS1 => ?_)
    exact kk q x hx H1 locs1 ls hP1 hS1 hL
theorem aw_callVL {g j ci N : Nat} {T : u_T} {fs : List Value} {E1 : Option Int64} {k : Int64 → Option τ} (hC : CO G C own cc nL lvl kc ks ret) (hB : MB y bytes maxL rt n) (hl : Cond.methodLink own index y ∈ BIG) (hlv : lv < lvl) (hM : CL G C.2.1 y (.code y bytes maxL rt) lv (.ref (gad G g j) :: As) μ E1) (hv : vld g j) (he : ent G g j (μ g j) = .inr (ci, fs)) (hc : vwCl[ci]? = some (y.cls, T, N)) (hn : As.length = n) (hr8 : (rest.map fun v => v.category).sum ≤ 8) (hd : decode cc pc = .ok (.invokevirtual index, 3))
    (kk : ∀ q, AW G C Q kc ks nL μ (pc + 3) L (.long q :: rest) (k q)) : AW G C Q kc ks nL μ pc L (As.reverse ++ .ref (gad G g j) :: rest) (E1.bind k) := by
  intro x hx H locs ls hP hS hL
  cases hE : E1 with
  | none => rw [hE] at hx; cases hx
  | some q =>
    rw [hE] at hx
    refine run_use (μ' := μ) (vl := [.long q]) (runV hC hB hl hlv (hM q hE) hP hS (rcv hC hv he hc hP) hn hL.1 hr8 hd) hS (fun st v t h => ⟨by rw [Outcome.returned.inj h.1]; rfl, h.2.1, h.2.2⟩) (fun H1 locs1 hP1 hS1 => ?_)
    exact kk q x hx H1 locs1 ls hP1 hS1 hL
theorem aw_callSL {E1 : Option Int64} {k : Int64 → Option τ} (hC : CO G C own cc nL lvl kc ks ret) (hB : MS y bytes maxL rt n) (hl : Cond.methodLink own index y ∈ BIG) (hlv : lv < lvl) (hM : CL G C.2.1 y (.code y bytes maxL rt) lv As μ E1) (hn : As.length = n) (hr8 : (rest.map fun v => v.category).sum ≤ 8) (hd : decode cc pc = .ok (.invokestatic index, 3))
    (kk : ∀ q, AW G C Q kc ks nL μ (pc + 3) L (.long q :: rest) (k q)) : AW G C Q kc ks nL μ pc L (As.reverse ++ rest) (E1.bind k) := by
  intro x hx H locs ls hP hS hL
  cases hE : E1 with
  | none => rw [hE] at hx; cases hx
  | some q =>
    rw [hE] at hx
    refine run_use (μ' := μ) (vl := [.long q]) (runS hC hB hl hlv (hM q hE) hP hS hn hL.1 hr8 hd) hS (fun st v t h => ⟨by rw [Outcome.returned.inj h.1]; rfl, h.2.1, h.2.2⟩) (fun H1 locs1 hP1 hS1 => ?_)
    exact kk q x hx H1 locs1 ls hP1 hS1 hL
theorem aw_callNL {host : String} {E1 : Option Int64} {k : Int64 → Option τ} (hC : CO G C own cc nL lvl kc ks ret) (hB : MS y bytes maxL rt n) (hl : Cond.methodLinkNest own index y host ∈ lw_tbl) (hlv : lv < lvl) (hM : CL G C.2.1 y (.code y bytes maxL rt) lv As μ E1) (hn : As.length = n) (hr8 : (rest.map fun v => v.category).sum ≤ 8) (hd : decode cc pc = .ok (.invokestatic index, 3))
    (kk : ∀ q, AW G C Q kc ks nL μ (pc + 3) L (.long q :: rest) (k q)) : AW G C Q kc ks nL μ pc L (As.reverse ++ rest) (E1.bind k) := by
  intro x hx H locs ls hP hS hL
  cases hE : E1 with
  | none => rw [hE] at hx; cases hx
  | some q =>
    rw [hE] at hx
    refine run_use (μ' := μ) (vl := [.long q]) (runN hC hB hl hlv (hM q hE) hP hS hn hL.1 hr8 hd) hS (fun st v t h => ⟨by rw [Outcome.returned.inj h.1]; rfl, h.2.1, h.2.2⟩) (fun H1 locs1 hP1 hS1 => ?_)
    exact kk q x hx H1 locs1 ls hP1 hS1 hL
theorem aw_callVV {g j ci N : Nat} {T : u_T} {fs : List Value} {E1 : Option Mem} {k : Mem → Option τ} (hC : CO G C own cc nL lvl kc ks ret) (hB : MB y bytes maxL rt n) (hl : Cond.methodLink own index y ∈ BIG) (hlv : lv < lvl) (hM : CV G C.2.1 y (.code y bytes maxL rt) lv (.ref (gad G g j) :: As) μ E1) (hv : vld g j) (he : ent G g j (μ g j) = .inr (ci, fs)) (hc : vwCl[ci]? = some (y.cls, T, N)) (hn : As.length = n) (hr8 : (rest.map fun v => v.category).sum ≤ 8) (hd : decode cc pc = .ok (.invokevirtual index, 3))
    (kk : ∀ q, AW G C Q kc ks nL q (pc + 3) L (rest) (k q)) : AW G C Q kc ks nL μ pc L (As.reverse ++ .ref (gad G g j) :: rest) (E1.bind k) := by
  intro x hx H locs ls hP hS hL
  cases hE : E1 with
  | none => rw [hE] at hx; cases hx
  | some q =>
    rw [hE] at hx
    refine run_use (μ' := q) (vl := []) (runV hC hB hl hlv (hM q hE) hP hS (rcv hC hv he hc hP) hn hL.1 hr8 hd) hS (fun st v t h => ⟨by rw [Outcome.returned.inj h.1]; rfl, h.2.1, h.2.2⟩) (fun H1 locs1 hP1 hS1 => ?_)
    exact kk q x hx H1 locs1 ls hP1 hS1 hL
theorem aw_callSV {E1 : Option Mem} {k : Mem → Option τ} (hC : CO G C own cc nL lvl kc ks ret) (hB : MS y bytes maxL rt n) (hl : Cond.methodLink own index y ∈ BIG) (hlv : lv < lvl) (hM : CV G C.2.1 y (.code y bytes maxL rt) lv As μ E1) (hn : As.length = n) (hr8 : (rest.map fun v => v.category).sum ≤ 8) (hd : decode cc pc = .ok (.invokestatic index, 3))
    (kk : ∀ q, AW G C Q kc ks nL q (pc + 3) L (rest) (k q)) : AW G C Q kc ks nL μ pc L (As.reverse ++ rest) (E1.bind k) := by
  intro x hx H locs ls hP hS hL
  cases hE : E1 with
  | none => rw [hE] at hx; cases hx
  | some q =>
    rw [hE] at hx
    refine run_use (μ' := q) (vl := []) (runS hC hB hl hlv (hM q hE) hP hS hn hL.1 hr8 hd) hS (fun st v t h => ⟨by rw [Outcome.returned.inj h.1]; rfl, h.2.1, h.2.2⟩) (fun H1 locs1 hP1 hS1 => ?_)
    exact kk q x hx H1 locs1 ls hP1 hS1 hL
theorem aw_callNV {host : String} {E1 : Option Mem} {k : Mem → Option τ} (hC : CO G C own cc nL lvl kc ks ret) (hB : MS y bytes maxL rt n) (hl : Cond.methodLinkNest own index y host ∈ lw_tbl) (hlv : lv < lvl) (hM : CV G C.2.1 y (.code y bytes maxL rt) lv As μ E1) (hn : As.length = n) (hr8 : (rest.map fun v => v.category).sum ≤ 8) (hd : decode cc pc = .ok (.invokestatic index, 3))
    (kk : ∀ q, AW G C Q kc ks nL q (pc + 3) L (rest) (k q)) : AW G C Q kc ks nL μ pc L (As.reverse ++ rest) (E1.bind k) := by
  intro x hx H locs ls hP hS hL
  cases hE : E1 with
  | none => rw [hE] at hx; cases hx
  | some q =>
    rw [hE] at hx
    refine run_use (μ' := q) (vl := []) (runN hC hB hl hlv (hM q hE) hP hS hn hL.1 hr8 hd) hS (fun st v t h => ⟨by rw [Outcome.returned.inj h.1]; rfl, h.2.1, h.2.2⟩) (fun H1 locs1 hP1 hS1 => ?_)
    exact kk q x hx H1 locs1 ls hP1 hS1 hL
end CALLS
section WR
variable {τ : Type} {G : GG} {C : CX} {own : String} {cc : ByteArray} {nL lvl kc ks : Nat} {ret : Option FieldType} {Q : τ → State → Prop} {μ : Mem} {pc : Nat} {L : List (Option Value)} {st : List Value}
theorem aw_iastoreN {g j n : Nat} {v w : Int32} {k : Mem → Option τ} (hC : CO G C own cc nL lvl kc ks ret) (hv : vld g j) (he : ∀ f, ent G g j f = .inl (gcA G 0, n, .inl f)) (hd : decode cc pc = .ok (.iastore, 1)) (kk : ∀ μ', AW G C Q kc ks nL μ' (pc + 1) L st (k μ')) : AW G C Q kc ks nL μ pc L (.int w :: .int v :: .ref (gad G g j) :: st) (ix v n (nm (upm μ g j v.toNatClampNeg w) k)) := aw_iastore hC hv he hd (kk _)
theorem aw_zastoreN {g j n : Nat} {v w : Int32} {k : Mem → Option τ} (hC : CO G C own cc nL lvl kc ks ret) (hv : vld g j) (he : ∀ f, ent G g j f = .inl (gcA G 1, n, .inl f)) (hd : decode cc pc = .ok (.bastore, 1)) (kk : ∀ μ', AW G C Q kc ks nL μ' (pc + 1) L st (k μ')) : AW G C Q kc ks nL μ pc L (.int w :: .int v :: .ref (gad G g j) :: st) (ix v n (bk w (nm (upm μ g j v.toNatClampNeg w) k))) := aw_zastore hC hv he hd (kk _)
end WR
section AWR2
variable {G : GG} {C : CX} {own : String} {cc : ByteArray} {nL lvl kc ks : Nat} {μ : Mem} {pc : Nat} {L : List (Option Value)}
theorem aw_iretR (hC : CO G C own cc nL lvl kc ks (some .int)) {v : Int32} (hd : decode cc pc = .ok (.ireturn, 1)) : AW G C (qR G C kc ks μ) kc ks nL μ pc L [.int v] (some v) := by
  intro x hx H locs ls hP hS hL
  cases hx
  exact W.iret hC.x hC.b hC.rt (fun t ht hW => ⟨rfl, by rw [ht]; exact hP, hS.F ht⟩) hS.2.2 hd hC.lk
theorem aw_zretR (hC : CO G C own cc nL lvl kc ks (some .boolean)) {v : Int32} (hd : decode cc pc = .ok (.ireturn, 1)) : AW G C (qR G C kc ks μ) kc ks nL μ pc L [.int v] (bk v (some v)) := by
  intro x hx H locs ls hP hS hL
  obtain ⟨hb9, hx⟩ := bk_some hx
  cases hx
  exact W.zret hC.x hC.b hC.rt (by rcases hb9 with rfl | rfl <;> rfl) (fun t ht hW => ⟨rfl, by rw [ht]; exact hP, hS.F ht⟩) hS.2.2 hd hC.lk
theorem aw_zret0R (hC : CO G C own cc nL lvl kc ks (some .boolean)) (hd : decode cc pc = .ok (.ireturn, 1)) : AW G C (qR G C kc ks μ) kc ks nL μ pc L [.int 0] (some 0) := aw_eq (show some (0 : Int32) = bk 0 (some 0) from rfl) (aw_zretR hC hd)
theorem aw_zret1R (hC : CO G C own cc nL lvl kc ks (some .boolean)) (hd : decode cc pc = .ok (.ireturn, 1)) : AW G C (qR G C kc ks μ) kc ks nL μ pc L [.int 1] (some 1) := aw_eq (show some (1 : Int32) = bk 1 (some 1) from rfl) (aw_zretR hC hd)
theorem aw_lretR (hC : CO G C own cc nL lvl kc ks (some .long)) {v : Int64} (hd : decode cc pc = .ok (.lreturn, 1)) : AW G C (qM G C kc ks μ) kc ks nL μ pc L [.long v] (some v) := by
  intro x hx H locs ls hP hS hL
  cases hx
  exact W.lret hC.x hC.b hC.rt (fun t ht hW => ⟨rfl, by rw [ht]; exact hP, hS.F ht⟩) hS.2.2 hd hC.lk
theorem aw_nmJ {τ : Type} {Q : τ → State → Prop} {st : List Value} {α : Type} {x : α} {k : α → Option τ} (P : α → Prop) (hx : P x) (kk : ∀ J, P J → AW G C Q kc ks nL μ pc L st (k J)) : AW G C Q kc ks nL μ pc L st (nm x k) := kk x hx
def dropAll (ks : List Nat) (L : List (Option Value)) : List (Option Value) := ks.foldl (fun l k => l.set k none) L
theorem dropAll_sub : ∀ (ks : List Nat) (L : List (Option Value)) (i : Nat) (v : Value), (dropAll ks L)[i]? = some (some v) → L[i]? = some (some v)
  | [], _, _, _, h => h
  | k :: ks, L, i, v, h => by
    have h1 := dropAll_sub ks (L.set k none) i v h
    by_cases hi : i = k
    · subst hi
      rw [List.getElem?_set] at h1
      split at h1
      · split at h1 <;> simp at h1
      · exact h1
    · rwa [List.getElem?_set_ne (Ne.symm hi)] at h1
theorem aw_drop {τ : Type} {Q : τ → State → Prop} {st : List Value} {E : Option τ} (ds : List Nat) (k : AW G C Q kc ks nL μ pc (dropAll ds L) st E) : AW G C Q kc ks nL μ pc L st E := aw_sub (dropAll_sub ds L) k
end AWR2
