/-! ===== more rows: writes that name the memory, switches, ends that throw ===== -/
section WR2
variable {τ : Type} {G : GG} {C : CX} {own : String} {cc : ByteArray} {nL lvl kc ks : Nat} {ret : Option FieldType} {Q : τ → State → Prop} {μ : Mem} {pc : Nat} {L : List (Option Value)} {st : List Value} {E : Option τ}
theorem aw_putIN {ref C0 : String} {T : u_T} {N ci index g j : Nat} {fs : List Value} {v : Int32} {k : Mem → Option τ} (hC : CO G C own cc nL lvl kc ks ret) (hin : ∀ w ∈ u_ws C0 T N, w ∈ BIG) (hv : vld g j) (he : ent G g j (μ g j) = .inr (ci, fs)) (hc : vwCl[ci]? = some (C0, T, N)) (i : Nat) (hi : i < N) (hw : Cond.fieldLink own index ref (T i).2.1 (T i).2.2.1 ∈ BIG) (hs : (T i).1 = ref) (ty0 : Nat → FieldType) (hty : ∀ k, k < N → parseFieldDescriptor (T k).2.2.1 = some (ty0 k)) (hnm : ∀ a, a < N → ∀ b, b < N → a ≠ b → (T a).2.1 ≠ (T b).2.1) (hfin : (T i).2.2.2 = false) (hdsc : parseFieldDescriptor (T i).2.2.1 = some .int) (hl : i < fs.length) (he2 : ent G g j (upd (μ g j) i v) = .inr (ci, fs.set i (.int v))) (hd : decode cc pc = .ok (.putfield index, 3)) (kk : ∀ μ', AW G C Q kc ks nL μ' (pc + 3) L st (k μ')) : AW G C Q kc ks nL μ pc L (.int v :: .ref (gad G g j) :: st) (nm (upm μ g j i v) k) :=
  aw_put hC hin hv he hc i hi hw hs ty0 hty hnm hfin hdsc rfl rfl hl he2 hd (kk _)
theorem aw_putZN {ref C0 : String} {T : u_T} {N ci index g j : Nat} {fs : List Value} {v : Int32} {k : Mem → Option τ} (hC : CO G C own cc nL lvl kc ks ret) (hin : ∀ w ∈ u_ws C0 T N, w ∈ BIG) (hv : vld g j) (he : ent G g j (μ g j) = .inr (ci, fs)) (hc : vwCl[ci]? = some (C0, T, N)) (i : Nat) (hi : i < N) (hw : Cond.fieldLink own index ref (T i).2.1 (T i).2.2.1 ∈ BIG) (hs : (T i).1 = ref) (ty0 : Nat → FieldType) (hty : ∀ k, k < N → parseFieldDescriptor (T k).2.2.1 = some (ty0 k)) (hnm : ∀ a, a < N → ∀ b, b < N → a ≠ b → (T a).2.1 ≠ (T b).2.1) (hfin : (T i).2.2.2 = false) (hdsc : parseFieldDescriptor (T i).2.2.1 = some .boolean) (hl : i < fs.length) (he2 : ent G g j (upd (μ g j) i v) = .inr (ci, fs.set i (.int v))) (hd : decode cc pc = .ok (.putfield index, 3)) (kk : ∀ μ', AW G C Q kc ks nL μ' (pc + 3) L st (k μ')) : AW G C Q kc ks nL μ pc L (.int v :: .ref (gad G g j) :: st) (bk v (nm (upm μ g j i v) k)) := by
  intro x hx
  obtain ⟨hb9, hx⟩ := bk_some hx
  exact aw_put hC hin hv he hc i hi hw hs ty0 hty hnm hfin hdsc (by rcases hb9 with rfl | rfl <;> rfl) (by rcases hb9 with rfl | rfl <;> rfl) hl he2 hd (kk _) x hx
theorem aw_copyN {index g0 j0 g1 j1 n0 n1 : Nat} {sp dp n : Int32} {k : Mem → Option τ} (hC : CO G C own cc nL lvl kc ks ret) (hw : Cond.methodLink own index arraycopyName ∈ BIG) (hnat : Cond.native arraycopyName ∈ BIG) (hstat : Cond.static arraycopyName ∈ BIG) (hini : Cond.initialized "java/lang/System" ∈ BIG) (hv0 : vld g0 j0) (hv1 : vld g1 j1) (he0 : ent G g0 j0 (μ g0 j0) = .inl (gcA G 0, n0, .inl (μ g0 j0))) (he1 : ∀ f, ent G g1 j1 f = .inl (gcA G 0, n1, .inl f)) (hlv : 1 ≤ lvl) (hst : (st.map fun v => v.category).sum ≤ 8) (hd : decode cc pc = .ok (.invokestatic index, 3)) (kk : ∀ μ', AW G C Q kc ks nL μ' (pc + 3) L st (k μ')) : AW G C Q kc ks nL μ pc L (.int n :: .int dp :: .ref (gad G g1 j1) :: .int sp :: .ref (gad G g0 j0) :: st) (cpx sp dp n n0 n1 (nm (cpm μ g0 j0 sp.toNatClampNeg g1 j1 dp.toNatClampNeg n.toNatClampNeg) k)) :=
  aw_copy hC hw hnat hstat hini hv0 hv1 he0 he1 hlv hst hd (kk _)
theorem aw_case {u k : Int32} {E1 E2 : Option τ} (kt : u = k → AW G C Q kc ks nL μ pc L (.int u :: st) E1) (kf : ¬ u = k → AW G C Q kc ks nL μ pc L (.int u :: st) E2) : AW G C Q kc ks nL μ pc L (.int u :: st) (if u = k then E1 else E2) := by
  by_cases c : u = k
  · rw [if_pos c]; exact kt c
  · rw [if_neg c]; exact kf c
theorem aw_tswIn {u k : Int32} {dflt lo hi kI : Int} {offs : Array Int} {len tgt : Nat} {off : Int} (hC : CO G C own cc nL lvl kc ks ret) (hd : decode cc pc = .ok (.tableswitch dflt lo hi offs, len)) (hc : u = k) (hk : k.toInt = kI) (h1 : lo ≤ kI) (h2 : kI ≤ hi) (ho : offs[(kI - lo).toNat]? = some off) (ht : (pc : Int) + off = (tgt : Int)) (kk : AW G C Q kc ks nL μ tgt L st E) : AW G C Q kc ks nL μ pc L (.int u :: st) E := by
  intro x hx H locs ls hP hS hL
  subst hc
  exact lv_tableIn hC.x hC.b hd (by rw [hk]; omega) (by rw [hk]; omega) (by rw [hk]; exact ho) ht (kk x hx H locs ls hP hS hL)
theorem aw_tswOut {u : Int32} {dflt lo hi : Int} {offs : Array Int} {len tgt : Nat} (hC : CO G C own cc nL lvl kc ks ret) (hd : decode cc pc = .ok (.tableswitch dflt lo hi offs, len)) (h : u.toInt < lo ∨ hi < u.toInt) (ht : (pc : Int) + dflt = (tgt : Int)) (kk : AW G C Q kc ks nL μ tgt L st E) : AW G C Q kc ks nL μ pc L (.int u :: st) E := by
  intro x hx H locs ls hP hS hL
  exact lv_tableOut hC.x hC.b hd h ht (kk x hx H locs ls hP hS hL)
theorem aw_lswIn {u : Int32} {dflt : Int} {ps : Array (Int × Int)} {len tgt : Nat} {off : Int} (hC : CO G C own cc nL lvl kc ks ret) (hd : decode cc pc = .ok (.lookupswitch dflt ps, len)) (hp : (ps.toList.zip (ps.toList.drop 1)).all (fun (a, next) => a.1 < next.1) = true) (ho : Op.lookupswitch.offset ps.toList dflt u.toInt = off) (ht : (pc : Int) + off = (tgt : Int)) (kk : AW G C Q kc ks nL μ tgt L st E) : AW G C Q kc ks nL μ pc L (.int u :: st) E := by
  intro x hx H locs ls hP hS hL
  exact lv_lookup hC.x hC.b hd hp ho ht (kk x hx H locs ls hP hS hL)
end WR2
/-- the exceptions, by number -/
def xname (k : Nat) : Option String := match k with
  | 1 => some "java/lang/IllegalArgumentException"
  | 2 => some "java/lang/UnsupportedOperationException"
  | 3 => some "java/lang/IndexOutOfBoundsException"
  | 4 => some "java/util/NoSuchElementException"
  | _ => none
def qcX (G : GG) (x : Nat × Int32 × Mem) : Array Value → State → Outcome → State → Prop := fun _ st o t => x.1 = 0 ∧ o = .returned (some (.int x.2.1)) ∧ va_P (gD G) vwCl (wsOf G x.2.2) t.heap ∧ va_F (gA G) st t
def xcX (G : GG) (x : Nat × Int32 × Mem) : String → State → State → Prop := fun cls st t => xname x.1 = some cls ∧ va_P (gD G) vwCl (wsOf G x.2.2) t.heap ∧ va_F (gA G) st t
abbrev rmX (k : Nat) : Room := { frames := 2 * k, cells := 1, slots := 6, locals := 64 * k }
abbrev qX (G : GG) (C : CX) (x : Nat × Int32 × Mem) : State → Prop := vx_MQ (cBel C) (qcX G x) (xcX G x) (cArgs C) (cS C) 1 6 (gA G)
/-- a method that answers an int or throws -/
def CXT (G : GG) (l : Launch) (y : MethodName) (c0 : Cond) (lvl : Nat) (vs : List Value) (μ : Mem) (E : Option (Nat × Int32 × Mem)) : Prop := ∀ x, E = some x → vx_Met l y (c0 :: BIG) (rmX lvl) (va_Pc vs (Inv G μ)) (qcX G x) (xcX G x) 1 6 (gA G)
theorem CXT.of {G : GG} {l : Launch} {y : MethodName} {cc : ByteArray} {nL : Nat} {ret : Option FieldType} {lvl : Nat} {vs : List Value} {L0 : List (Option Value)} {μ : Mem} {E : Option (Nat × Int32 × Mem)} (hl0 : l.stackTraces = false) {own : String} (ho : y.cls = own) (hy : plainName y.cls = true) (hL : lv_args 0 vs = asc 0 L0) (hn : (lg_sl vs).length ≤ nL)
    (body : ∀ C : CX, C.2.1 = l → C.2.1.stackTraces = false → (∀ z ∈ (cC C).exceptionTable.toList, False) → 1 ≤ (cR C).cells ∧ 6 ≤ (cR C).slots → CO G C own cc nL lvl 0 0 ret → AW G C (qX G C) 0 0 nL μ 0 L0 [] E) : CXT G l y (.code y cc nL ret) lvl vs μ E := by
  intro x hx
  refine vx_ofW (cc := cc) (maxL := nL) (ret := ret) hy rfl ?_
  intro p e s m args below meth c s₁ B hml ht hv
  obtain ⟨rfl, hP, hK, hI⟩ := hv
  have hts := atoms_spec (ws := Cond.code y cc nL ret :: BIG) B.pre
  have hC : CO G (p, l, e, rmX lvl, s, m, vs.toArray, below, meth, c) own cc nL lvl 0 0 ret :=
    ⟨B.exec, B.bytes, hml, by rw [← ho]; exact findClass_of_methodNamed B.named, fun w hw => hts w (List.mem_cons_of_mem _ hw), B.notSynchronized, hK, hI, ⟨Nat.le_refl _, Nat.le_refl _, Nat.zero_le _, Nat.zero_le _⟩, B.returns⟩
  have hl := lv_entry vs (n := nL) hn
  rw [hL] at hl
  rw [lg_entry_eq]
  exact body (p, l, e, rmX lvl, s, m, vs.toArray, below, meth, c) rfl hl0 ht ⟨Nat.le_refl _, Nat.le_refl _⟩ hC x hx _ _ _ hP va_S.rf hl
section AWX
variable {G : GG} {C : CX} {own : String} {cc : ByteArray} {nL lvl : Nat} {ret : Option FieldType} {μ : Mem} {pc : Nat} {L : List (Option Value)} {st : List Value}
theorem aw_iretX (hC : CO G C own cc nL lvl 0 0 (some .int)) {v : Int32} (hd : decode cc pc = .ok (.ireturn, 1)) : AW G C (qX G C) 0 0 nL μ pc L [.int v] (some (0, v, μ)) := by
  intro x hx H locs ls hP hS hL
  cases hx
  refine W.widen (k := 1) (n := 6) (by decide) (by decide) (vx_ret ?_)
  exact W.iret hC.x hC.b hC.rt (fun t ht hW => ⟨rfl, rfl, by rw [ht]; exact hP, hS.F ht⟩) hS.2.2 hd hC.lk
theorem aw_zretX (hC : CO G C own cc nL lvl 0 0 (some .boolean)) {v : Int32} (hd : decode cc pc = .ok (.ireturn, 1)) : AW G C (qX G C) 0 0 nL μ pc L [.int v] (bk v (some (0, v, μ))) := by
  intro x hx H locs ls hP hS hL
  obtain ⟨hb9, hx⟩ := bk_some hx
  cases hx
  refine W.widen (k := 1) (n := 6) (by decide) (by decide) (vx_ret ?_)
  exact W.zret hC.x hC.b hC.rt (by rcases hb9 with rfl | rfl <;> rfl) (fun t ht hW => ⟨rfl, rfl, by rw [ht]; exact hP, hS.F ht⟩) hS.2.2 hd hC.lk
theorem aw_zret0X (hC : CO G C own cc nL lvl 0 0 (some .boolean)) (hd : decode cc pc = .ok (.ireturn, 1)) : AW G C (qX G C) 0 0 nL μ pc L [.int 0] (some (0, 0, μ)) := aw_eq (show some (0, (0 : Int32), μ) = bk 0 (some (0, 0, μ)) from rfl) (aw_zretX hC hd)
theorem aw_zret1X (hC : CO G C own cc nL lvl 0 0 (some .boolean)) (hd : decode cc pc = .ok (.ireturn, 1)) : AW G C (qX G C) 0 0 nL μ pc L [.int 1] (some (0, 1, μ)) := aw_eq (show some (0, (1 : Int32), μ) = bk 1 (some (0, 1, μ)) from rfl) (aw_zretX hC hd)
theorem thr_words (hC : CO G C own cc nL lvl 0 0 ret) {ic : Nat} {cls : String} {names : List String} (hT : TH own ic cls names) : ∀ w ∈ vx_atS own ic cls names, w.before (cArgs C) (cS C) = true := by
  intro w hw
  obtain ⟨h1, h2⟩ := hT.2.1 w hw
  simp only [Bool.or_eq_true] at h2
  rcases h2 with h2 | h2
  · exact hC.w (bg h1 h2)
  · exact va_Nw.use (oth_tab h2) (hC.iv.2.2.2.1 w h1 h2)
theorem aw_throw {k i ik is ic : Nat} {cls tx : String} {names : List String} (hC : CO G C own cc nL lvl 0 0 ret) (hl : C.2.1.stackTraces = false) (hout : ∀ z ∈ (cC C).exceptionTable.toList, False) (hcs : 1 ≤ (cR C).cells ∧ 6 ≤ (cR C).slots) (hk : xname k = some cls) (hstr : strL[i]? = some (own, is, tx)) (hw : Cond.classLink own ik cls ∈ BIG) (hini : Cond.initialized cls ∈ BIG) (hT : TH own ic cls names) (hn : names.length ≤ 2) (hlv : 3 ≤ lvl) (hst : (st.map fun v => v.category).sum ≤ 8)
    (d0 : decode cc pc = .ok (.new ik, 3)) (d3 : decode cc (pc + 3) = .ok (.dup, 1)) (d4 : decode cc (pc + 4) = .ok (.ldc is, 2)) (d6 : decode cc (pc + 6) = .ok (.invokespecial ic, 3)) (d9 : decode cc (pc + 9) = .ok (.athrow, 1)) : AW G C (qX G C) 0 0 nL μ pc L st (some (k, 0, μ)) := by
  intro x hx H locs ls hP hS hL
  cases hx
  have hr := hC.rm
  refine vx_throwS (A := gA G) hC.x hC.b hl hC.ow hT.1.1 hT.1.2 (hC.w hw) (hC.w hini) (hC.iv.2.2.2.2.1 i _ hstr) (thr_words hC hT) ?_ hC.iv.2.2.2.2.2.2.2.2.1 hC.iv.2.2.2.2.2.2.2.2.2.1 hS (hL.1.trans hC.ml.symm) d0 d3 d4 d6 d9 (fun z hz => (hout z hz).elim) (by omega) (by omega) (by omega) (by omega) hC.lk (fun t hA hz hq => ?_) hS.2.2 (by decide) (by decide)
  · intro w hw'
    rcases List.mem_cons.mp hw' with e | hw'
    · rw [e]; rfl
    rcases List.mem_cons.mp hw' with e | hw'
    · rw [e]; rfl
    exact hT.2.2 w hw'
  · refine ⟨hk, va_P.kept hP (fun k q hkq => hq q.1 ((hP k q hkq).lt)), ?_⟩
    exact ⟨Nat.le_trans hS.1 hz, fun q h1 h2 => (hq q (Nat.lt_of_lt_of_le h1 hS.1)).trans (hS.2.1 q h1 h2)⟩
theorem aw_throwW {k i ik is ic : Nat} {cls tx : String} {names : List String} (hC : CO G C own cc nL lvl 0 0 ret) (hl : C.2.1.stackTraces = false) (hout : ∀ z ∈ (cC C).exceptionTable.toList, False) (hcs : 1 ≤ (cR C).cells ∧ 6 ≤ (cR C).slots) (hk : xname k = some cls) (hstr : strL[i]? = some (own, is, tx)) (hw : Cond.classLink own ik cls ∈ BIG) (hini : Cond.initialized cls ∈ BIG) (hT : TH own ic cls names) (hn : names.length ≤ 2) (hlv : 3 ≤ lvl) (hst : (st.map fun v => v.category).sum ≤ 8)
    (d0 : decode cc pc = .ok (.new ik, 3)) (d3 : decode cc (pc + 3) = .ok (.dup, 1)) (d4 : decode cc (pc + 4) = .ok (.ldc_w is, 3)) (d6 : decode cc (pc + 7) = .ok (.invokespecial ic, 3)) (d9 : decode cc (pc + 10) = .ok (.athrow, 1)) : AW G C (qX G C) 0 0 nL μ pc L st (some (k, 0, μ)) := by
  intro x hx H locs ls hP hS hL
  cases hx
  have hr := hC.rm
  refine vx_throwSW (A := gA G) hC.x hC.b hl hC.ow hT.1.1 hT.1.2 (hC.w hw) (hC.w hini) (hC.iv.2.2.2.2.1 i _ hstr) (thr_words hC hT) ?_ hC.iv.2.2.2.2.2.2.2.2.1 hC.iv.2.2.2.2.2.2.2.2.2.1 hS (hL.1.trans hC.ml.symm) d0 d3 d4 d6 d9 (fun z hz => (hout z hz).elim) (by omega) (by omega) (by omega) (by omega) hC.lk (fun t hA hz hq => ?_) hS.2.2 (by decide) (by decide)
  · intro w hw'
    rcases List.mem_cons.mp hw' with e | hw'
    · rw [e]; rfl
    rcases List.mem_cons.mp hw' with e | hw'
    · rw [e]; rfl
    exact hT.2.2 w hw'
  · refine ⟨hk, va_P.kept hP (fun k q hkq => hq q.1 ((hP k q hkq).lt)), ?_⟩
    exact ⟨Nat.le_trans hS.1 hz, fun q h1 h2 => (hq q (Nat.lt_of_lt_of_le h1 hS.1)).trans (hS.2.1 q h1 h2)⟩
end AWX
