/-! ===== an exception E(text) whose constructor hands its text to F's by any index ix; F's and those above it by the library's own chain ===== -/
section NSE
variable {p : Program} {l : Launch} {e : Env} {R : Room} {s : State} {m : MethodId} {args : Array Value} {below : List Frame} {meth : Method} {c : Code} {W0 : State} {cells slots : Nat}
/-- of E's row of six fields, and of what Throwable's constructor reads -/
def ns_cell (E : String) : List Cond :=
  [.instantiable E 6, .selects E Bundle.tFill Bundle.tFill, .selects E Bundle.tFill0 Bundle.tFill0,
   .isRef (.static Bundle.tN "UNASSIGNED_STACK" Bundle.steD), .isRef (.static Bundle.tN "SUPPRESSED_SENTINEL" Bundle.listD),
   .fieldLink Bundle.tN 198 Bundle.tN "backtrace" "Ljava/lang/Object;", .lays Bundle.tN Bundle.tN "backtrace" "Ljava/lang/Object;", .lays E Bundle.tN "backtrace" "Ljava/lang/Object;",
   .lays E Bundle.tN "detailMessage" "Ljava/lang/String;", .lays E Bundle.tN "cause" "Ljava/lang/Throwable;", .lays E Bundle.tN "stackTrace" Bundle.steD, .lays E Bundle.tN "suppressedExceptions" Bundle.listD]
/-- of the constructors, from E's up -/
def ns_up (E F : String) (ix : Nat) (rx : ByteArray) (up : List String) : List Cond := Bundle.passSAtoms E F ix rx ++ Bundle.chainSAtoms F up
def ns_ws (own : String) (ic : Nat) (E F : String) (ix : Nat) (rx : ByteArray) (up : List String) : List Cond :=
  (Cond.methodLink own ic (Bundle.initS E) :: ns_cell E) ++ (ns_up E F ix rx up ++ (Bundle.throwableAtoms ++ Bundle.throwableSAtoms))
/-- the constructors as a list, the first of it E's own -/
theorem ns_chain {pl : Platform} (hpl : pl.magicAccessors = ({} : Platform).magicAccessors) {top : MethodId} (htop : s.methodNamed? (Bundle.initS Bundle.tN) = some top) {E F : String} {ix : Nat} {rx : ByteArray} {up : List String}
    (x0 : decode rx 0 = .ok (.aload_n 0, 1)) (x1 : decode rx 1 = .ok (.aload_n 1, 1)) (x2 : decode rx 2 = .ok (.invokespecial ix, 3)) (x5 : decode rx 5 = .ok (.return_, 1))
    (hE : Bundle.fit E = true) (hF : ∀ n ∈ F :: up, Bundle.fit n = true) (h : ∀ w ∈ ns_up E F ix rx up, w.before args s = true) :
    ∃ C : List PassC, C.length = up.length + 2 ∧ (∀ P ∈ C, P.LinksS pl s) ∧ PassesOn top (C.map (·.toPassT)) ∧ s.methodNamed? (Bundle.initS E) = some (firstOf top (C.map (·.toPassT))) := by
  have hF1 := hF F List.mem_cons_self
  obtain ⟨A, hA, hAm, hAs⟩ := PassC.ofS_atoms (args := args) hpl (Bundle.fit_spec hE).1 (Bundle.fit_spec hF1).2 x0 x1 x2 x5 (fun w hw => h w (List.mem_append_left _ hw))
  obtain ⟨B, C, hn, hB, hC, hBm, hBs, hon⟩ := Bundle.chainS (args := args) hpl htop up F hF1 (fun n hn => hF n (List.mem_cons_of_mem _ hn)) (fun w hw => h w (List.mem_append_right _ hw))
  refine ⟨A :: B :: C, congrArg (· + 2) hn, fun P hP => ?_, ⟨Option.some.inj (hAs.symm.trans hBm), hBs, hon⟩, hAm⟩
  rcases List.mem_cons.mp hP with rfl | hP
  · exact hA
  rcases List.mem_cons.mp hP with rfl | hP
  · exact hB
  exact hC P hP
/-- Throwable's own method is the one that an E answers with -/
theorem ns_pick (hadm : l.admits e) {E : String} {k : ClassId} {t : MethodName} {i : MethodId} (hE : s.vm.findClass E = some k) (ht : t.cls = Bundle.tN) (hi : s.methodNamed? t = some i)
    (hw : (Cond.selects E t t).before args s = true) : selectMethod e.platform s.vm k i = .method i := by
  obtain ⟨k', r, i', h1, h2, h3, h4, -⟩ := Cond.selects_spec (show (Cond.selects E t t).holds args s none s [] = true from hw)
  have hr := State.methodFound?_of_named hi (by rw [ht]; decide)
  have e1 : k' = k := Option.some.inj (h1.symm.trans hE)
  have e2 : r = i := Option.some.inj (h2.symm.trans hr)
  have e3 : i' = i := Option.some.inj (h3.symm.trans hi)
  rw [e1, e2, e3] at h4
  exact (Launch.admits_selectMethod hadm s.vm k i).trans h4
/-- the field f has its place in a row of the class k -/
def ns_lies (s : State) (k : ClassId) (y : Class) (f : Field) : Prop := y.instanceTypes[f.slot]? = some f.type ∧ ∃ d, Jmm.declares? s.vm f.slot (k + 1) k = some d ∧ d.2.name = f.name
theorem ns_apart {k : ClassId} {y : Class} {f f' : Field} (h : ns_lies s k y f) (h' : ns_lies s k y f') (hn : f.name ≠ f'.name) : f.slot ≠ f'.slot :=
  h.2.elim fun _ hd => h'.2.elim fun _ hd' => Cond.laysApart hd.1 hd'.1 hd.2 hd'.2 hn
/-- backtrace is null until it is written, and Throwable's constructor has written the three others alone -/
theorem ns_null {T : ThrowableC} {k : ClassId} {y : Class} {fB : Field} (ty : fB.type = .object "java/lang/Object") (hB : ns_lies s k y fB)
    (nC : fB.slot ≠ T.fCause.slot) (nS : fB.slot ≠ T.fStack.slot) (nP : fB.slot ≠ T.fSupp.slot) (a : Addr) (u0 sen : RefV) (th : ThreadId) :
    ((preparedCellV T.toThrowableT (freshCell k y) a u0 sen).withEntry th).slots[fB.slot]? = some .null := by
  have h0 : (y.instanceTypes.map defaultValue)[fB.slot]? = some .null := by rw [Array.getElem?_map, hB.1, ty]; rfl
  show ((((y.instanceTypes.map defaultValue).setIfInBounds T.fCause.slot (.ref a)).setIfInBounds T.fStack.slot u0.v).setIfInBounds T.fSupp.slot sen.v)[fB.slot]? = some .null
  rw [Array.getElem?_setIfInBounds_ne nP.symm, Array.getElem?_setIfInBounds_ne nS.symm, Array.getElem?_setIfInBounds_ne nC.symm]
  exact h0
set_option maxHeartbeats 2000000 in
/-- 'invokespecial E.<init>(text)' on a new row of E's: it comes back behind the call; only that row is written -/
theorem ns_made (X : Stand p l e R s m args below meth c W0 [] cells slots) (hexec : p.tables.exec = Jvm.exec) (htr : e.platform.stackTraces = false) {own E F : String} {ic ix : Nat} {rx : ByteArray} {up : List String}
    (x0 : decode rx 0 = .ok (.aload_n 0, 1)) (x1 : decode rx 1 = .ok (.aload_n 1, 1)) (x2 : decode rx 2 = .ok (.invokespecial ix, 3)) (x5 : decode rx 5 = .ok (.return_, 1))
    (hown : s.vm.findClass own = some m.cls) (hE : Bundle.fit E = true) (hF : ∀ n ∈ F :: up, Bundle.fit n = true) (h : ∀ w ∈ ns_ws own ic E F ix rx up, w.before args s = true)
    {a : Addr} {k : ClassId} {y : Class} (hk : s.vm.findClass E = some k) (hy : s.vm.classes[k]? = some y) (hcell : W0.heap[a]? = some (freshCell k y)) (hnew : s.heap.size ≤ a) {msg : Value} (hmsg : msg.isRef = true)
    {g : JFrame} (hg : g.method = m) (hsize : g.locals.size = c.maxLocals) {rest : List Value} (hstack : g.stack = msg :: .ref a :: rest) (hd : decode c.code g.pc = .ok (.invokespecial ic, 3))
    (hRf : up.length + 4 < R.frames) (hRl : 2 * g.monitorRoom + (rest.map fun v => v.category).sum + (13 * (up.length + 2) + 42) ≤ R.locals) :
    ∃ (V : State) (ce : Cell) (L : List Loc), V.heap = W0.heap ∧ Stand p l e R s m args below meth c (V.setCell a ce) L cells slots ∧ (∀ z ∈ L, z.base = a) ∧ ce.cls = k ∧ ce.vm = .none ∧
      ∀ target, Steps p.tables e below ((V.setCell a ce).setTop { g with stack := rest, pc := g.pc + 3 }) target → Steps p.tables e below (W0.setTop g) target := by
  have pl0 := X.admits.platform
  have hpl : e.platform.magicAccessors = ({} : Platform).magicAccessors := by rw [pl0]
  have hc : ∀ w ∈ ns_cell E, w.before args s = true := fun w hw => h w (List.mem_append_left _ (List.mem_cons_of_mem _ hw))
  have hu : ∀ w ∈ ns_up E F ix rx up, w.before args s = true := fun w hw => h w (List.mem_append_right _ (List.mem_append_left _ hw))
  have hcode : ∀ w ∈ Bundle.passSAtoms E F ix rx, w.before args s = true := fun w hw => hu w (List.mem_append_left _ hw)
  -- Throwable, and the constructors
  obtain ⟨T, Z0, L, -, Y⟩ := ThrowableC.of_atoms (args := args) (pl := e.platform) (by rw [pl0]) (by rw [pl0]) hpl (fun w hw => h w (List.mem_append_right _ (List.mem_append_right _ (List.mem_append_left _ hw))))
  obtain ⟨Z, M, LZ, LM, hZ⟩ := Init0T.ofS_atoms (args := args) hpl L Y (fun w hw => h w (List.mem_append_right _ (List.mem_append_right _ (List.mem_append_right _ hw))))
  obtain ⟨C, hlen, hC, hon, hfirst⟩ := ns_chain hpl hZ x0 x1 x2 x5 hE hF hu
  -- the fields of the new row
  obtain ⟨k', y', hk', hy', hord, -⟩ := Cond.instantiable_spec (show (Cond.instantiable E 6).holds args s none s [] = true from hc _ (by simp [ns_cell]))
  have ek : k' = k := Option.some.inj (hk'.symm.trans hk)
  subst ek
  have ey : y' = y := Option.some.inj (hy'.symm.trans hy)
  subst ey
  obtain ⟨ciB, iB, fB, lkB, rtB, atB, stB, -, nmB, tyB, ffB⟩ := Cond.ownField (t := .object "java/lang/Object") Y.found L.cls (by decide +kernel)
    (show (Cond.fieldLink Bundle.tN 198 Bundle.tN "backtrace" "Ljava/lang/Object;").holds args s none s [] = true from hc _ (by simp [ns_cell]))
    (show (Cond.lays Bundle.tN Bundle.tN "backtrace" "Ljava/lang/Object;").holds args s none s [] = true from hc _ (by simp [ns_cell])) e.platform hpl
  obtain ⟨iM, ffM⟩ := Y.msg
  have lB : ns_lies s k' y' fB := Cond.laysAt hk hy ffB (hc _ (by simp [ns_cell]))
  have lM : ns_lies s k' y' T.fMsg := Cond.laysAt hk hy ffM (hc _ (by simp [ns_cell]))
  have lC : ns_lies s k' y' T.fCause := Cond.laysAt hk hy Y.cause (hc _ (by simp [ns_cell]))
  have lS : ns_lies s k' y' T.fStack := Cond.laysAt hk hy Y.stack (hc _ (by simp [ns_cell]))
  have lP : ns_lies s k' y' T.fSupp := Cond.laysAt hk hy Y.supp (hc _ (by simp [ns_cell]))
  -- Throwable's statics lie in an old row, which nobody has touched
  obtain ⟨cs, hcs, hst⟩ := Y.statics
  obtain ⟨u0, hu0⟩ := Cond.staticRefV Y.unassigned L.unassignedStatic L.statics hcs hst (hc (.isRef (.static Bundle.tN "UNASSIGNED_STACK" Bundle.steD)) (by simp [ns_cell]))
  obtain ⟨sen, hsen⟩ := Cond.staticRefV Y.sentinel L.sentinelStatic L.statics hcs hst (hc (.isRef (.static Bundle.tN "SUPPRESSED_SENTINEL" Bundle.listD)) (by simp [ns_cell]))
  have hcsW : W0.heap[T.aS]? = some cs := State.sameButNew.old_cell (s' := W0.setVm s.vm) X.same hcs
  have hcsv : cs.vm ≠ .unknown := fun h9 => by rw [h9] at hst; cases hst
  have hold : T.aS < s.heap.size := (Array.getElem?_eq_some_iff.mp hcs).1
  have hskip : SkipFacts T e.platform s (fun u => u) u0 ((preparedCellV T.toThrowableT (freshCell k' y') a u0 sen).withEntry W0.cur) :=
    ⟨⟨ciB, iB, fB⟩, ⟨lkB, rtB, atB, stB⟩, ns_null tyB lB (ns_apart lB lC (by rw [nmB, Y.causeName]; decide)) (ns_apart lB lS (by rw [nmB, Y.stackName]; decide)) (ns_apart lB lP (by rw [nmB, Y.suppName]; decide)) a u0 sen _, fun _ _ => rfl⟩
  -- the call
  obtain ⟨i1, -, -, -, vm1, hi1, -, -, -, -, -, -, -, hW1, go1⟩ := Steps.initColdS (tb := p.tables) (e := e) (below := below) X.here hexec X.warmed hpl hown (t := Bundle.initS E) rfl rfl (Bundle.fit_spec hE).2
    (h (.methodLink own ic (Bundle.initS E)) (List.mem_append_left _ List.mem_cons_self)) (hcode (.instanceMethod (Bundle.initS E)) (by simp [Bundle.passSAtoms])) (bytes := rx) (maxL := 2) (hcode (.code (Bundle.initS E) rx 2 none) (by simp [Bundle.passSAtoms]))
    (f := g) hg hstack hd
  have e1 : i1 = firstOf (Z.m T.toThrowableT) (C.map (·.toPassT)) := Option.some.inj (hi1.symm.trans hfirst)
  obtain ⟨vm2, X2, go2⟩ := (X.noted hW1).ctorMessageOffV hexec (g := { g with stack := rest }) hg hsize T L Z LZ M LM C hC hon (u0 := u0) (sen := sen) (self := a) hmsg (cell := freshCell k' y') (cellS := cs)
    hcell (fun _ h9 => by cases h9) (fun h9 => by cases h9) rfl rfl (ns_pick X.admits hk rfl Y.fill0 (hc _ (by simp [ns_cell]))) (ns_pick X.admits hk rfl Y.fill (hc _ (by simp [ns_cell])))
    hcsW (Nat.ne_of_lt (Nat.lt_of_lt_of_le hold hnew)) hcsv hu0 hsen
    (Takes.of_laid hy hord lC.1 (by rw [Y.causeType]; rfl)) (Takes.of_laid hy hord lS.1 (by rw [Y.stackType]; exact fits_refV_array _ u0)) (Takes.of_laid hy hord lP.1 (by rw [Y.suppType]; exact fits_refV_object _ sen)) (Takes.of_laid hy hord lM.1 (by rw [Y.msgType]; exact fits_refV_object _ ⟨msg, hmsg⟩))
    Y.objLocals hskip htr [] hd (by omega) (by rw [hlen]; exact hRl)
  refine ⟨(W0.setVm vm1).setVm vm2, _, _, rfl, X2, fun z hz => ?_, rfl, rfl, fun target ht => go1 target fun acts => ?_⟩
  · simp only [List.nil_append, List.mem_cons, List.not_mem_nil, or_false] at hz
    rcases hz with hz | hz | hz | hz | hz <;> rw [hz]
  · rw [doInvoke_state, e1]
    exact go2 target ht
/-- .. and thrown at once, out of the method -/
theorem ns_thrown (X : Stand p l e R s m args below meth c W0 [] cells slots) (hexec : p.tables.exec = Jvm.exec) (htr : e.platform.stackTraces = false) {own E F : String} {ic ix : Nat} {rx : ByteArray} {up : List String}
    (x0 : decode rx 0 = .ok (.aload_n 0, 1)) (x1 : decode rx 1 = .ok (.aload_n 1, 1)) (x2 : decode rx 2 = .ok (.invokespecial ix, 3)) (x5 : decode rx 5 = .ok (.return_, 1))
    (hown : s.vm.findClass own = some m.cls) (hE : Bundle.fit E = true) (hF : ∀ n ∈ F :: up, Bundle.fit n = true) (h : ∀ w ∈ ns_ws own ic E F ix rx up, w.before args s = true)
    {a : Addr} {k : ClassId} {y : Class} (hk : s.vm.findClass E = some k) (hy : s.vm.classes[k]? = some y) (hcell : W0.heap[a]? = some (freshCell k y)) (hnew : s.heap.size ≤ a) {msg : Value} (hmsg : msg.isRef = true)
    {g : JFrame} (hg : g.method = m) (hsize : g.locals.size = c.maxLocals) (hfree : g.locked = none ∧ g.entered = []) {rest : List Value} (hstack : g.stack = msg :: .ref a :: .ref a :: rest)
    (hd : decode c.code g.pc = .ok (.invokespecial ic, 3)) (hd3 : decode c.code (g.pc + 3) = .ok (.athrow, 1)) (hout : ∀ z ∈ c.exceptionTable.toList, covers z (g.pc + 3) = false) (hlocks : meth.locks = false)
    (hRf : up.length + 4 < R.frames) (hRl : 2 * g.monitorRoom + ((Value.ref a :: rest).map fun v => v.category).sum + (13 * (up.length + 2) + 42) ≤ R.locals) :
    ∃ U : State, Steps p.tables e below (W0.setTop g) U ∧ U.status = .running ∧ Ended U below (.threw a) ∧ s.WarmedH U.vm ∧ s.sameButNew ({ U with vm := s.vm } : State) [] cells slots ∧
      ∃ ce, U.heap[a]? = some ce ∧ ce.cls = k ∧ ce.vm = .none := by
  obtain ⟨V, ce, L, hV, X1, hL, e1, e2, go⟩ := ns_made X hexec htr x0 x1 x2 x5 hown hE hF h hk hy hcell hnew hmsg hg hsize (rest := .ref a :: rest) hstack hd hRf hRl
  obtain ⟨w1, w2, w3, w4, w5⟩ := X1.athrowLeaves hexec (g := { g with stack := .ref a :: rest, pc := g.pc + 3 }) hg hfree.1 hfree.2 hout (a := a) (rest := rest) rfl hd3 hlocks
  have ha : a < V.heap.size := by rw [hV]; exact (Array.getElem?_eq_some_iff.mp hcell).1
  exact ⟨_, go _ w1, w2, w3, w4, w5.weaken (fun z hz hlt => absurd hlt (by rw [hL z hz]; exact Nat.not_lt.mpr hnew)) (Nat.le_refl _) (Nat.le_refl _), ce, heapAt_setCell_self ce ha, e1, e2⟩
end NSE
section EndsE
variable {p : Program} {l : Launch} {e : Env} {R : Room} {s : State} {m : MethodId} {args : Array Value} {below : List Frame} {meth : Method} {c : Code} {H : Heap} {locs : List Loc} {cells slots : Nat} {Q : State → Prop}
variable {mc ms : Nat} {free : Addr → Prop} {A0 A1 : Nat → Prop} {H0 : Heap} {a : Array Value} {ls : Array Slot} {st0 rest : List Value}
variable {Qc : Array Value → State → Outcome → State → Prop} {XC : String → State → State → Prop}
def vx_atX (own : String) (ic : Nat) (X F : String) (ix : Nat) (rx : ByteArray) (up : List String) : List Cond := (ns_ws own ic X F ix rx up).filter vx_no
/-- a throw that leaves: as vx_throwS, for a constructor with its own index, and with the heap's size told exactly -/
theorem vx_throwE {cc : ByteArray} {pc : Nat} (hexec : p.tables.exec = Jvm.exec) (hb : c.code = cc) (hl : l.stackTraces = false) {own cls F text : String} {up : List String} {ik is ic ix mc ms sa : Nat} {rx : ByteArray} (x0 : decode rx 0 = .ok (.aload_n 0, 1)) (x1 : decode rx 1 = .ok (.aload_n 1, 1)) (x2 : decode rx 2 = .ok (.invokespecial ix, 3)) (x5 : decode rx 5 = .ok (.return_, 1)) {A : Nat → Prop}
    (hown : s.vm.findClass own = some m.cls) (hcls : Bundle.fit cls = true) (hup : ∀ n ∈ F :: up, Bundle.fit n = true)
    (hk : (Cond.classLink own ik cls).before args s = true) (hini : (Cond.initialized cls).before args s = true) (hstr : vk_R own is text sa s) (hat : ∀ w ∈ vx_atX own ic cls F ix rx up, w.before args s = true)
    (hgood : ∀ w ∈ Cond.classLink own ik cls :: Cond.initialized cls :: vx_atX own ic cls F ix rx up, vx_ot w = true)
    (hU : vx_Zq Bundle.tN "UNASSIGNED_STACK" Bundle.steD A s s.heap) (hN : vx_Zq Bundle.tN "SUPPRESSED_SENTINEL" Bundle.listD A s s.heap) (hS : va_S A s.heap H locs) (hsize : ls.size = c.maxLocals)
    (d0 : decode cc pc = .ok (.new ik, 3)) (d3 : decode cc (pc + 3) = .ok (.dup, 1)) (d4 : decode cc (pc + 4) = .ok (.ldc is, 2)) (d6 : decode cc (pc + 6) = .ok (.invokespecial ic, 3)) (d9 : decode cc (pc + 9) = .ok (.athrow, 1))
    (hout : ∀ x ∈ c.exceptionTable.toList, covers x (pc + 9) = false)
    (hRframes : up.length + 4 < R.frames) (hRlocals : (rest.map fun v => v.category).sum + (13 * (up.length + 2) + 43) ≤ R.locals) (hRcells : cells + 1 ≤ R.cells) (hRslots : slots + 6 ≤ R.slots) (hlocks : meth.locks = false)
    (hx : ∀ t : State, s.vm.Alike t.vm → t.heap.size = H.size + 1 → (∀ q : Nat, q < H.size → t.heap[q]? = H[q]?) → XC cls s t)
    (hf : ∀ z ∈ locs, free z.base) (hc : cells + 1 ≤ mc) (hs : slots + 6 ≤ ms) :
    W p l e R s m args below meth c H locs cells slots (vx_MQ below Qc XC args s mc ms free) (F0 m pc ls rest) := by
  intro T hT X
  have htr : e.platform.stackTraces = false := (show e.platform.stackTraces = l.stackTraces by rw [X.admits.platform]).trans hl
  have Y := vx_rebase X (R' := { frames := R.frames, locals := R.locals, cells := 1, slots := 6 }) (Nat.le_refl _) (Nat.le_refl _) hRcells hRslots
  obtain ⟨s', hA⟩ : ∃ z, z = (T.setVm s.vm).setFrames (.invoking m args :: below) := ⟨_, rfl⟩
  rw [← hA] at Y
  have hvm : s'.vm = s.vm := by rw [hA]; rfl
  have hhp : s'.heap = H := by rw [hA]; exact hT
  have hW0 : s.WarmedH s'.vm := by rw [hvm]; exact State.WarmedH.refl s
  have hat' : ∀ w ∈ vx_atX own ic cls F ix rx up, w.before args s' = true := fun w hw => vx_ot_at hW0 hvm.symm (hgood w (List.mem_cons_of_mem _ (List.mem_cons_of_mem _ hw))) (hat w hw)
  have hk' : (Cond.classLink own ik cls).before args s' = true := vx_ot_at hW0 hvm.symm (hgood _ List.mem_cons_self) hk
  have hini' : (Cond.initialized cls).before args s' = true := vx_ot_at hW0 hvm.symm (hgood _ (List.mem_cons_of_mem _ List.mem_cons_self)) hini
  have hU' : vx_Zq Bundle.tN "UNASSIGNED_STACK" Bundle.steD A s' s'.heap := by rw [hhp]; exact vx_Zq.moved hW0.alike (hU.kept hS.2.1)
  have hN' : vx_Zq Bundle.tN "SUPPRESSED_SENTINEL" Bundle.listD A s' s'.heap := by rw [hhp]; exact vx_Zq.moved hW0.alike (hN.kept hS.2.1)
  have h : ∀ w ∈ ns_ws own ic cls F ix rx up, w.before args s' = true := vx_own hat' (vx_isRefq hU'.1) (vx_isRefq hN'.1) hU'.2.word hN'.2.word
  have hown' : s'.vm.findClass own = some m.cls := by rw [hvm]; exact hown
  have hins : (Cond.instantiable cls 6).before args s' = true := h _ (by simp [ns_ws, ns_cell])
  obtain ⟨vm₁, cX, kX, hfX, hkX, -, -, X₁, st1⟩ := Y.newCold hexec (own := own) (C := cls) (index := ik) (n := 6) hown' hk' hins hini'
    (g := F0 m pc ls rest) rfl (by rw [hb]; exact d0) (Nat.le_refl _) (Nat.le_refl _)
  generalize hT1 : (T.setVm vm₁).pushCell { cls := cX, slots := kX.instanceTypes.map defaultValue, vm := .none } = T1 at X₁ st1
  have hcat : (Value.ref T.heap.size).category = 1 := rfl
  have hcellA : T1.heap[T.heap.size]? = some (freshCell cX kX) := by rw [← hT1]; exact State.heap_pushCell_size _ _
  have d3' : decode c.code (pc + 3) = .ok (.dup, 1) := by rw [hb]; exact d3
  have d4' : decode c.code (pc + 4) = .ok (.ldc is, 2) := by rw [hb]; exact d4
  have hstr' : vk_R own is text sa s' := vk_R.warm hW0 hstr
  obtain ⟨U, hsteps, hrun, hend, hW, hsame, ce, hce, hO, hOv⟩ := ns_thrown X₁ hexec htr x0 x1 x2 x5 hown' hcls hup h hfX hkX hcellA (by rw [hhp, hT]; exact Nat.le_refl _) (msg := .ref sa) rfl
    (g := { method := m, pc := pc + 6, locals := ls, stack := .ref sa :: .ref T.heap.size :: .ref T.heap.size :: rest, locked := none }) rfl hsize ⟨rfl, rfl⟩ (rest := rest) rfl
    (by rw [hb]; exact d6) (by rw [hb]; exact d9) hout hlocks hRframes (by simp only [List.map_cons, List.sum_cons, hcat]; omega)
  obtain ⟨f1, f2⟩ := vx_frame hsame
  rw [hhp] at f1 f2
  have f3 : U.heap.size = H.size + 1 := by
    have g1 : U.heap.size ≤ s'.heap.size + (0 + 1) := hsame.2.2.1
    have g2 := (Array.getElem?_eq_some_iff.mp hce).1
    rw [hhp] at g1
    rw [hT] at g2
    omega
  have hWs : s.WarmedH U.vm := State.WarmedH.trans hW0 hW
  have hcl : s.vm.findClass cls = some ce.cls := by
    have h9 := hfX
    rw [hvm] at h9
    rw [hO]; exact h9
  have hall : s.sameButNew ({ U with vm := s.vm } : State) locs mc ms := by
    subst hA
    obtain ⟨e1, e2⟩ := hsame
    rw [State.setFrames_setFrames] at e1
    have h2 : (T.setVm s.vm).sameButNew ({ U with vm := s.vm } : State) [] (0 + 1) (0 + 6) := ⟨e1, e2⟩
    have h3 := X.same.trans h2
    rw [List.append_nil] at h3
    exact h3.mono hc hs
  refine ⟨U, ?_, .threw T.heap.size, hrun, hend, Or.inr ⟨T.heap.size, rfl, cls, ce, locs, hx U hWs.alike f3 (fun q hq => f2 q hq (fun z hz => nomatch hz)), hce, hOv, hcl, hWs, hall, hf⟩⟩
  refine st1 _ ?_
  show Steps p.tables e below (T1.setTop { method := m, pc := pc + 3, locals := ls, stack := .ref T.heap.size :: rest, locked := none }) _
  jvm_step X₁.here [X₁.here.top, hexec, d3', Value.category]
  exact X₁.ldcString hexec (own := own) (text := text) (index := is) (a := sa) hown' hstr'.1 hstr'.2
    (g := { method := m, pc := pc + 4, locals := ls, stack := .ref T.heap.size :: .ref T.heap.size :: rest, locked := none }) rfl d4' _ hsteps
end EndsE
