/-! ===== caught by the one row of a method's table, whose class may not be resolved yet: the search is as from the tables behind the resolving, and there the library's own law speaks ===== -/
section NCT
variable {p : Program} {l : Launch} {e : Env} {R : Room} {s : State} {m : MethodId} {args : Array Value} {below : List Frame} {meth : Method} {c : Code} {H : Heap} {locs : List Loc} {cells slots : Nat} {Q : State → Prop} {ls : Array Slot} {rest : List Value} {pc : Nat}
theorem nc_move {Q : Handler → Pre} {E : CtlPost} {d : Bool} {acts : List Action} {S : State} {f : JFrame} {q : Addr} {x : ExceptionTableEntry} {t : List ExceptionTableEntry} {k : ClassId} (hx : covers x f.pc = true) (h0 : x.catchType ≠ 0)
    (hl : S.vm.ClassLinks e.platform f.method.cls x.catchType k) :
    wp (findHandler.go f q (x :: t)) Q E e d acts S ↔ wp (findHandler.go f q (x :: t)) Q E e d acts (S.setVm (S.vm.noted f.method.cls x.catchType (.cls k))) := by
  simp only [covers] at hx
  obtain ⟨r1, r2⟩ := (resolveClass_links e.toSetting hl).op (op := VmOp.resolveClass f.method.cls x.catchType) rfl
  obtain ⟨y, hy, hr⟩ := hl.ready
  have hvv : ∀ V : Vm, (S.setVm V).setVm V = S.setVm V := fun _ => rfl
  simp [findHandler.go, hx, h0, r1, r2, resolveClass_memo e hy hr, VmOp.dirties, VmOp.acts, hvv]
theorem nc_step {S : State} {f : JFrame} {q : Addr} {r : List Frame} {x : ExceptionTableEntry} {ce : Cell} (hm : S.vm.method? f.method = some meth) (hc : meth.code = some c) (ht : c.exceptionTable.toList = [x])
    (hx : covers x f.pc = true) (h0 : x.catchType ≠ 0) (hl : S.vm.ClassLinks e.platform f.method.cls x.catchType ce.cls) (hq : S.heap[q]? = some ce) (hv : ce.vm = .none) (hfit : S.vm.assignable ce.cls ce.cls = true) :
    (stepThrowing e S q (.java f :: r)).Is ((S.setVm (S.vm.noted f.method.cls x.catchType (.cls ce.cls))).setFrames (.java { f with pc := x.handlerPc, stack := [.ref q] } :: r)) [] := by
  have hal := (Vm.Alike.refl S.vm).noted f.method.cls x.catchType (.cls ce.cls)
  obtain ⟨-, -, -, y, -, -, -, -, -, hy, -⟩ := hl.here
  obtain ⟨y', hy', -⟩ := hal.2.2 _ _ hy
  have hm' : (S.vm.noted f.method.cls x.catchType (.cls ce.cls)).method? f.method = some meth := by rw [hal.method?]; exact hm
  have hthere : Finds e (S.setVm (S.vm.noted f.method.cls x.catchType (.cls ce.cls))) f q (.found x.handlerPc) :=
    Finds.catchReady (s := S.setVm (S.vm.noted f.method.cls x.catchType (.cls ce.cls))) hm' hc [] x [] ht (fun _ h9 => by cases h9) hx h0 hl.ready hq (fun _ h9 => by rw [hv] at h9; cases h9) ⟨y', hy'⟩ ⟨y', hy'⟩
      (show (S.vm.noted f.method.cls x.catchType (.cls ce.cls)).assignable ce.cls ce.cls = true by rw [hal.assignable]; exact hfit)
  have hhere : ∀ (Q : Handler → Pre) (E : CtlPost) (d : Bool) (acts : List Action), wp (findHandler f q) Q E e d acts S ↔ Q (.found x.handlerPc) d acts (S.setVm (S.vm.noted f.method.cls x.catchType (.cls ce.cls))) := by
    intro Q E d acts
    rw [← hthere Q E d acts, W.findHandler_eq hm hc, W.findHandler_eq (s := S.setVm (S.vm.noted f.method.cls x.catchType (.cls ce.cls))) hm' hc, ht]
    exact nc_move hx h0 hl
  simp only [stepThrowing, searchFrame, vmDo]
  generalize hr : Sem.go _ e false [] S = res
  obtain ⟨as, rfl, ha⟩ := Sem.eq_ok_of hr (a := Handler.found x.handlerPc) (s' := S.setVm (S.vm.noted f.method.cls x.catchType (.cls ce.cls))) (acts' := []) (by simp [hhere])
  exact ⟨rfl, ha⟩
theorem nc_catch {own E : String} {ce : Cell} {q : Addr} {x : ExceptionTableEntry} (hown : s.vm.findClass own = some m.cls) (htab : c.exceptionTable.toList = [x]) (hx : covers x pc = true) (h0 : x.catchType ≠ 0)
    (hlink : (Cond.classLink own x.catchType E).before args s = true) (hself : (Cond.castable E E).before args s = true) (hcell : H[q]? = some ce) (hv : ce.vm = .none) (hcl : s.vm.findClass E = some ce.cls)
    (kk : W p l e R s m args below meth c H locs cells slots Q (F0 m x.handlerPc ls [.ref q])) : vx_W p l e R s m args below meth c H locs cells slots Q (F0 m pc ls rest) q := by
  intro T hT X
  obtain ⟨k, hk, hl⟩ := Cond.classLink_spec hown (show (Cond.classLink own x.catchType E).holds args s none s [] = true from hlink) e.platform (by rw [X.admits.platform])
  obtain ⟨k1, k2, hk1, hk2, hfit⟩ := Cond.castable_spec (show (Cond.castable E E).holds args s none s [] = true from hself)
  have e0 : k = ce.cls := Option.some.inj (hk.symm.trans hcl)
  have e1 : k1 = ce.cls := Option.some.inj (hk1.symm.trans hcl)
  have e2 : k2 = ce.cls := Option.some.inj (hk2.symm.trans hcl)
  rw [e0] at hl
  rw [e1, e2] at hfit
  obtain ⟨dk, -, -, -, hd, -, -, -, -, -, -, hopen⟩ := hl.here
  have hW := X.warmed.noted hd hopen (State.rightAt_cls hl)
  obtain ⟨t, st, hQ⟩ := kk (T.setVm (T.vm.noted m.cls x.catchType (.cls ce.cls))) hT (X.noted hW)
  refine ⟨t, ?_, hQ⟩
  obtain ⟨go, win⟩ := At.throwing (g := F0 m pc ls rest) X.here q
  have hs := nc_step (e := e) (S := (T.setTop (F0 m pc ls rest)).pushFrame (.throwing q)) (f := F0 m pc ls rest) (r := T.frames.tail) X.method' X.code htab hx h0 (X.warmed.classLinks hl)
    (by show T.heap[q]? = some ce; rw [hT]; exact hcell) hv (show T.vm.assignable ce.cls ce.cls = true by rw [X.warmed.alike.assignable]; exact hfit)
  refine Steps.head go win ?_
  rw [stepThread_throwing (frames_entered X.here.top _), hs.1]
  obtain ⟨g0, hg0⟩ := Option.isSome_iff_exists.mp X.here.top
  obtain ⟨r, hr⟩ := State.topJava?_eq_some.mp hg0
  have hr2 : (T.setVm (T.vm.noted m.cls x.catchType (.cls ce.cls))).frames = .java g0 :: r := hr
  rw [State.setTop_of_frames _ hr2] at st
  have hf : ∀ G : List Frame, (((T.setTop (F0 m pc ls rest)).pushFrame (.throwing q)).setVm (T.vm.noted m.cls x.catchType (.cls ce.cls))).setFrames G = (T.setVm (T.vm.noted m.cls x.catchType (.cls ce.cls))).setFrames G := by
    intro G
    rw [State.setTop_of_frames _ hr, State.pushFrame, State.setFrames_setFrames, State.setFrames_setVm, State.setFrames_setFrames]
  have htl : T.frames.tail = r := by rw [hr]; rfl
  rw [htl]
  exact (hf _).symm ▸ st
end NCT
/-! ===== the law's look, whole ===== -/
abbrev y_lk : MethodName := ⟨"GiftShopsLaw", "look", "(LGiftShops;II[J)I"⟩
abbrev lkh : List (Nat × Nat × Nat × Nat) := [(0, 10, 13, 13)]
def lkws : List Cond := Cond.codeWith y_lk method_3_code 5 (some .int) lkh :: gGW
theorem t_754 : Cond.codeWith y_lk method_3_code 5 (some .int) lkh ∈ gGW := gtb_good (ps := 754) (by decide +kernel) rfl
theorem t_753 : Cond.static y_lk ∈ gGW := gtb_good (ps := 753) (by decide +kernel) rfl
theorem t_lkI : Cond.initialized "GiftShopsLaw" ∈ gGW := gtb_good (ps := 0) (by decide +kernel) rfl
theorem t_757 : Cond.instanceMethod (gro_91).1 ∈ gGW := gtb_good (ps := 757) (by decide +kernel) rfl
theorem t_758 : Cond.selects "GiftShops" (gro_91).1 (gro_91).1 ∈ gGW := gtb_good (ps := 758) (by decide +kernel) rfl
theorem t_756 : Cond.methodLink "GiftShopsLaw" 7 (gro_91).1 ∈ gGW := gtb_good (ps := 756) (by decide +kernel) rfl
theorem d_lk_0 : decode method_3_code 0 = .ok (.aload_n 3, 1) := by decide +kernel
theorem d_lk_1 : decode method_3_code 1 = .ok (.iconst 0, 1) := by decide +kernel
theorem d_lk_2 : decode method_3_code 2 = .ok (.aload_n 0, 1) := by decide +kernel
theorem d_lk_3 : decode method_3_code 3 = .ok (.iload_n 1, 1) := by decide +kernel
theorem d_lk_4 : decode method_3_code 4 = .ok (.iload_n 2, 1) := by decide +kernel
theorem d_lk_5 : decode method_3_code 5 = .ok (.invokevirtual 7, 3) := by decide +kernel
theorem d_lk_8 : decode method_3_code 8 = .ok (.i2l, 1) := by decide +kernel
theorem d_lk_9 : decode method_3_code 9 = .ok (.lastore, 1) := by decide +kernel
theorem d_lk_10 : decode method_3_code 10 = .ok (.goto 7, 3) := by decide +kernel
theorem d_lk_13 : decode method_3_code 13 = .ok (.astore 4, 2) := by decide +kernel
theorem d_lk_15 : decode method_3_code 15 = .ok (.iconst 1, 1) := by decide +kernel
theorem d_lk_16 : decode method_3_code 16 = .ok (.ireturn, 1) := by decide +kernel
theorem d_lk_17 : decode method_3_code 17 = .ok (.iconst 0, 1) := by decide +kernel
theorem d_lk_18 : decode method_3_code 18 = .ok (.ireturn, 1) := by decide +kernel
theorem lk_ck : gchkJ gMT "GiftShopsLaw" 1 7 3 [91, 3, 0, 756, 757, 847] = true := by decide +kernel
section GLM
variable {l : Launch} {D : va_G} {B : Nat} {ex : Nat → Nat} {H0 : Heap}
section GQ
variable {p : Program} {e : Env} {R : Room} {s : State} {m : MethodId} {args : Array Value} {below : List Frame} {meth : Method} {c : Code} {Q : State → Prop} {cc : ByteArray} {nL : Nat} {own nm : String} {n0 u0 pc : Nat} {L : gL} {st : List Value} {S : gS}
theorem gq_aload {j : Fin 4} {i x : Nat} (X : gCx p s m args meth c cc nL own nm D ex) (hd : decode cc pc = .ok (.aload_n j, 1)) (hi : (j : Nat) = i) (hg : gl L i = some (.ref x)) (k : gG p l e R s m args below meth c Q nL D B ex H0 n0 u0 (pc + 1) L (.ref x :: st) S) : gG p l e R s m args below meth c Q nL D B ex H0 n0 u0 pc L st S := fun ls H locs cells slots hL hR hl hc hs => lv_aload_n X.1 X.2.1 hd hi (hL.2.2.2 _ _ hg) (k ls H locs cells slots hL hR hl hc hs)
theorem gq_iload {j : Fin 4} {i : Nat} {x : Int32} (X : gCx p s m args meth c cc nL own nm D ex) (hd : decode cc pc = .ok (.iload_n j, 1)) (hi : (j : Nat) = i) (hg : gl L i = some (.int x)) (k : gG p l e R s m args below meth c Q nL D B ex H0 n0 u0 (pc + 1) L (.int x :: st) S) : gG p l e R s m args below meth c Q nL D B ex H0 n0 u0 pc L st S := fun ls H locs cells slots hL hR hl hc hs => lv_iload_n X.1 X.2.1 hd hi (hL.2.2.2 _ _ hg) (k ls H locs cells slots hL hR hl hc hs)
theorem gq_iconst {n : Int} {v : Int32} (X : gCx p s m args meth c cc nL own nm D ex) (hd : decode cc pc = .ok (.iconst n, 1)) (hv : Int32.ofInt n = v) (k : gG p l e R s m args below meth c Q nL D B ex H0 n0 u0 (pc + 1) L (.int v :: st) S) : gG p l e R s m args below meth c Q nL D B ex H0 n0 u0 pc L st S := fun ls H locs cells slots hL hR hl hc hs => lv_iconst X.1 X.2.1 hd hv (k ls H locs cells slots hL hR hl hc hs)
theorem gq_i2l {x : Int32} (X : gCx p s m args meth c cc nL own nm D ex) (hd : decode cc pc = .ok (.i2l, 1)) (k : gG p l e R s m args below meth c Q nL D B ex H0 n0 u0 (pc + 1) L (.long x.toInt64 :: st) S) : gG p l e R s m args below meth c Q nL D B ex H0 n0 u0 pc L (.int x :: st) S := fun ls H locs cells slots hL hR hl hc hs => lv_i2l X.1 X.2.1 hd rfl (k ls H locs cells slots hL hR hl hc hs)
theorem gq_goto {off : Int} {tgt : Nat} (X : gCx p s m args meth c cc nL own nm D ex) (hd : decode cc pc = .ok (.goto off, 3)) (ht : (pc : Int) + off = (tgt : Int)) (k : gG p l e R s m args below meth c Q nL D B ex H0 n0 u0 tgt L st S) : gG p l e R s m args below meth c Q nL D B ex H0 n0 u0 pc L st S := fun ls H locs cells slots hL hR hl hc hs => lv_goto X.1 X.2.1 hd ht (k ls H locs cells slots hL hR hl hc hs)
end GQ
theorem lk_metA {S S1 : gS} {v1 v2 x : Int32} {f : Nat} {fl : Nat → Int64} (hER : gER gMT gBI0 f 8 91 0 (gpad (gent [.ref 0, .int v1, .int v2]) 4) [] S (some (.int x)) S1) (hrc : grcv S "GiftShops" [.ref 0]) (h83 : S1.2.2 83 = .inl (.long, 1, .inr (.inl fl))) :
    Met l y_lk lkws (grm 9 S S1) (gPc D B ex H0 [.ref 0, .int v1, .int v2, .ref 83] S) (gQc D B ex H0 (some (.int 0)) (S1.1, S1.2.1, gset S1.2.2 83 (.inl (.long, 1, .inr (.inl (vp_updL fl 0 x.toInt64)))))) (S1.1 - S.1) (S1.2.1 - S.2.1) (fun q => B ≤ q) := by
  have hm := gER_mono gBI0_mono _ _ _ _ _ _ _ _ _ hER
  refine va_MetW (cc := method_3_code) (maxL := 5) (ret := some .int) (hh := lkh) (by decide) rfl ?_
  intro p e s m args below meth c s₁ Bd hml hv
  obtain ⟨rfl, hKN, hRH⟩ := hv
  have hts0 := atoms_spec (ws := lkws) Bd.pre
  have hts : ∀ w ∈ gGW, w.before _ s = true := fun w hw => hts0 w (List.mem_cons_of_mem _ hw)
  have X : gCx p s m _ meth c method_3_code 5 "GiftShopsLaw" "look" D ex := ⟨Bd.exec, Bd.bytes, hml, findClass_of_methodNamed Bd.named, hts, (name_of_methodNamed Bd.named Bd.method).1, hKN⟩
  have hlocks := Bd.notSynchronized
  have hr := Bd.returns
  rw [lg_entry_eq]
  have hgo : gG p l e (headSpec lkws (grm 9 S S1)).room s m (([.ref 0, .int v1, .int v2, .ref 83] : List Value).map (gcv B ex)).toArray below meth c (MQ below (gQc D B ex H0 (some (.int 0)) (S1.1, S1.2.1, gset S1.2.2 83 (.inl (.long, 1, .inr (.inl (vp_updL fl 0 x.toInt64)))))) (([.ref 0, .int v1, .int v2, .ref 83] : List Value).map (gcv B ex)).toArray s (S1.1 - S.1) (S1.2.1 - S.2.1) (fun q => B ≤ q)) 5 D B ex H0 S.1 S.2.1 0 [some (.ref 0), some (.int v1), some (.int v2), some (.ref 83), none] [] S := by
    refine gq_aload X d_lk_0 (i := 3) rfl rfl ?_
    refine gq_iconst X d_lk_1 rfl ?_
    refine gq_aload X d_lk_2 (i := 0) rfl rfl ?_
    refine gq_iload X d_lk_3 (i := 1) rfl rfl ?_
    refine gq_iload X d_lk_4 (i := 2) rfl rfl ?_
    have k8 : gG p l e (headSpec lkws (grm 9 S S1)).room s m (([.ref 0, .int v1, .int v2, .ref 83] : List Value).map (gcv B ex)).toArray below meth c (MQ below (gQc D B ex H0 (some (.int 0)) (S1.1, S1.2.1, gset S1.2.2 83 (.inl (.long, 1, .inr (.inl (vp_updL fl 0 x.toInt64)))))) (([.ref 0, .int v1, .int v2, .ref 83] : List Value).map (gcv B ex)).toArray s (S1.1 - S.1) (S1.2.1 - S.2.1) (fun q => B ≤ q)) 5 D B ex H0 S.1 S.2.1 8 [some (.ref 0), some (.int v1), some (.int v2), some (.ref 83), none] [.int x, .int 0, .ref 83] S1 := by
      refine gq_i2l X d_lk_8 ?_
      refine gs_last X d_lk_9 h83 (by decide) (by decide) ?_
      refine gq_goto X d_lk_10 (tgt := 17) rfl ?_
      refine gq_iconst X d_lk_17 rfl ?_
      intro ls H locs cells slots hL hR hl hc hs
      have e1 : cells = S1.1 - S.1 := by dsimp only at hc; omega
      have e2 : slots = S1.2.1 - S.2.1 := by dsimp only at hs; omega
      subst e1; subst e2
      exact W.iret X.1 X.2.1 hr (fun t ht hW => ⟨rfl, by rw [ht]; exact gRH_moved hW.alike hR⟩) hl d_lk_18
    exact gg_call (kd := 1) (idx := 7) (j := 91) (na := 3) (d := 8) (f := f) (cr := gro_91) (ax := [0, 756, 757, 847]) X (Or.inl ⟨rfl, rfl⟩) d_lk_5 rfl lk_ck (Nat.le_of_ble_eq_true rfl) (Nat.le_of_ble_eq_true rfl) hrc (Nat.le_of_ble_eq_true rfl) hER (Nat.le_refl _) (Nat.le_refl _) (by show S1.1 ≤ S.1 + (S1.1 - S.1); omega) (by show S1.2.1 ≤ S.2.1 + (S1.2.1 - S.2.1); omega) k8
  exact hgo _ s.heap [] 0 0 (g_entry (as := [.ref 0, .int v1, .int v2, .ref 83]) (Nat.le_of_ble_eq_true rfl)) hRH (fun q h => by cases h) (Nat.add_zero _) (Nat.add_zero _)
def lkrm9 : Room := { frames := 9, cells := 1, slots := 6, locals := 360 }
def lkx : ExceptionTableEntry := { startPc := 0, endPc := 10, handlerPc := 13, catchType := 13 }
theorem lk_metT {S : gS} {v1 v2 : Int32} {N : Nat} {fs : List Value} (hst : l.stackTraces = false) (h0 : S.2.2 0 = .inr (9, fs)) (h1 : fs[1]? = some (.int (nI N))) (hN : N ≤ 100) (hS : S.1 < 1000000) (hno : ¬ (gin v1 N ∧ gin v2 5)) :
    Met l y_lk lkws lkrm9 (gPc D B ex H0 [.ref 0, .int v1, .int v2, .ref 83] S) (gQc D B ex H0 (some (.int 1)) (S.1 + 1, S.2.1 + 6, S.2.2)) 1 6 (fun q => B ≤ q) := by
  have hk : gMT[91]? = some gro_91 := rfl
  have hok := gMT_ok _ (List.mem_of_getElem? hk)
  refine va_MetW (cc := method_3_code) (maxL := 5) (ret := some .int) (hh := lkh) (by decide) rfl ?_
  intro p e s m args below meth c s₁ Bd hml hv
  obtain ⟨rfl, hKN, hRH⟩ := hv
  have hts0 := atoms_spec (ws := lkws) Bd.pre
  have hts : ∀ w ∈ gGW, w.before _ s = true := fun w hw => hts0 w (List.mem_cons_of_mem _ hw)
  have hown : s.vm.findClass "GiftShopsLaw" = some m.cls := findClass_of_methodNamed Bd.named
  have X : gCx p s m _ meth c method_3_code 5 "GiftShopsLaw" "look" D ex := ⟨Bd.exec, Bd.bytes, hml, hown, hts, (name_of_methodNamed Bd.named Bd.method).1, hKN⟩
  have hx := Bd.exec
  have hb := Bd.bytes
  have hlocks := Bd.notSynchronized
  have hr := Bd.returns
  have htab : c.exceptionTable.toList = [] ++ lkx :: [] := vx_table (x := y_lk) Bd (hts _ t_754)
  have hcodeG : Cond.code (gro_91).1 (gro_91).2.1 (gro_91).2.2.1 (gro_91).2.2.2.1 ∈ gGW := by obtain ⟨h9, -⟩ := hok; exact h9 (by decide)
  have hiniG : Cond.initialized (gro_91).1.cls ∈ gGW := by obtain ⟨-, h9, -⟩ := hok; exact h9
  rw [lg_entry_eq]
  have hgo : gG p l e (headSpec lkws lkrm9).room s m (([.ref 0, .int v1, .int v2, .ref 83] : List Value).map (gcv B ex)).toArray below meth c (MQ below (gQc D B ex H0 (some (.int 1)) (S.1 + 1, S.2.1 + 6, S.2.2)) (([.ref 0, .int v1, .int v2, .ref 83] : List Value).map (gcv B ex)).toArray s 1 6 (fun q => B ≤ q)) 5 D B ex H0 S.1 S.2.1 0 [some (.ref 0), some (.int v1), some (.int v2), some (.ref 83), none] [] S := by
    refine gq_aload X d_lk_0 (i := 3) rfl rfl ?_
    refine gq_iconst X d_lk_1 rfl ?_
    refine gq_aload X d_lk_2 (i := 0) rfl rfl ?_
    refine gq_iload X d_lk_3 (i := 1) rfl rfl ?_
    refine gq_iload X d_lk_4 (i := 2) rfl rfl ?_
    intro ls H locs cells slots hL hR hl hc hs
    have e1 : cells = 0 := by omega
    have e2 : slots = 0 := by omega
    subst e1; subst e2
    have hne : fs ≠ [] := by
      intro h9
      rw [h9] at h1
      cases h1
    obtain ⟨-, -, -, r', hr', -, cellB, g1, g2, g3, -⟩ := g_int hR h0 hne
    have hrecv : ∃ cellB : Cell, H[B + 0]? = some cellB ∧ cellB.vm.isStatics = false ∧ s.vm.findClass "GiftShops" = some cellB.cls := by
      refine ⟨cellB, g1, by rw [g3]; rfl, ?_⟩
      rw [g2]
      have h9 := (hKN.1.1 9 _ (show gcl[9]? = some _ from rfl)).2.1
      exact h9
    have hF : CallFix p m c method_3_code 5 s (([.ref 0, .int v1, .int v2, .ref 83] : List Value).map (gcv B ex)).toArray gGW "GiftShopsLaw" := ⟨hx, hb, hml, hown, hts⟩
    refine gx_call (vx_runV (As := [.int v1, .int v2]) (rest := [.int 0, .ref (B + 83)]) (b := B + 0) (C := "GiftShops") hF (lk_thr hst h0 h1 hN hS hno) ⟨callB_of 2 hts (gws_good hcodeG) rfl rfl rfl (hts _ hiniG) (hts _ t_756) ⟨by decide, by decide, by decide +kernel⟩ ⟨Nat.le_refl 9, Nat.le_of_ble_eq_true rfl⟩, hts _ t_757, hts _ t_758⟩ ⟨gPc_blind, hrecv, fun U hU hW => ⟨rfl, gKN_warm hW hKN, by rw [hU]; exact gRH_moved hW.alike hR⟩⟩ rfl rfl hL.1 rfl (lv_room (Nat.le_of_ble_eq_true rfl)) d_lk_5 ⟨Nat.le_refl 1, Nat.le_refl 6⟩) (fun _ _ _ h => h) ?_
    intro E ce q9 st₀ t L1 hh0 hal hL1 hxc hce hcv hcl
    obtain ⟨rfl, hR1⟩ := hxc
    refine nc_catch (own := "GiftShopsLaw") (E := nse) (x := lkx) hown htab rfl (by decide) (hts _ t_755) (va_tabs rfl rfl (hKN.2.1 _ t_762)) hce hcv hcl ?_
    refine lv_astore hx hb d_lk_13 (gLR_has hL) (by decide) rfl (fun ls2 hl2 => ?_)
    refine lv_iconst hx hb d_lk_15 rfl ?_
    exact W.iret hx hb hr (fun t2 ht hW => ⟨rfl, by rw [ht]; exact gRH_moved (hal.symm.trans hW.alike) hR1⟩) (fun q hq => (List.mem_append.mp hq).elim (hl q) (hL1 q)) d_lk_16
  exact hgo _ s.heap [] 0 0 (g_entry (as := [.ref 0, .int v1, .int v2, .ref 83]) (Nat.le_of_ble_eq_true rfl)) hRH (fun q h => by cases h) (Nat.add_zero _) (Nat.add_zero _)
theorem g_lk {p : Program} {e : Env} {R : Room} {s : State} {m : MethodId} {args : Array Value} {below : List Frame} {meth : Method} {c : Code} {Q : State → Prop} {cc : ByteArray} {nL : Nat} {own nm : String} {n0 u0 pc : Nat} {L : gL} {rest : List Value} {S S' : gS} {idx mc ms : Nat} {rm : Room} {v1 v2 : Int32} {v : Option Value} (X : gCx p s m args meth c cc nL own nm D ex)
    (hM : Met l y_lk lkws rm (gPc D B ex H0 [.ref 0, .int v1, .int v2, .ref 83] S) (gQc D B ex H0 v S') mc ms (fun q => B ≤ q)) (r1 : rm.frames = 9) (r2 : rm.locals = 360) (r3 : rm.cells = mc) (r4 : rm.slots = ms) (z1 : S'.1 = S.1 + mc) (z2 : S'.2.1 = S.2.1 + ms) (hlk : Cond.methodLink own idx y_lk ∈ gGW) (hf : 10 ≤ R.frames) (hlc : 400 ≤ R.locals) (hcat : gcat rest ≤ 8) (hr1 : S'.1 ≤ n0 + R.cells) (hr2 : S'.2.1 ≤ u0 + R.slots) (hd : decode cc pc = .ok (.invokestatic idx, 3))
    (k : gG p l e R s m args below meth c Q nL D B ex H0 n0 u0 (pc + 3) L (v.toList ++ rest) S') : gG p l e R s m args below meth c Q nL D B ex H0 n0 u0 pc L ([.ref 83, .int v2, .int v1, .ref 0] ++ rest) S := by
  intro ls H locs cells slots hL hR hl hc hs
  obtain ⟨hx, hb, hml, hown, hts, hnm, hKN⟩ := X
  have hF : CallFix p m c cc nL s args gGW own := ⟨hx, hb, hml, hown, hts⟩
  have hG : GoodIn gGW (va_wsS own idx y_lk lkws) := by
    intro w hw
    have h9 : w ∈ gGW := by
      unfold va_wsS at hw
      rcases List.mem_append.mp hw with h | h
      · simp only [List.mem_cons, List.not_mem_nil, or_false] at h
        rcases h with rfl | rfl | rfl
        · exact hlk
        · exact t_753
        · exact t_lkI
      · rcases List.mem_cons.mp h with rfl | h
        · exact t_754
        · exact h
    exact ⟨h9, gGW_good h9⟩
  refine g_callX (vx_runSW (As := ([.ref 0, .int v1, .int v2, .ref 83] : List Value).map (gcv B ex)) (rest := rest.map (gcv B ex)) hF hM (vx_cwSW 4 hts hG rfl r3 r4 ⟨by decide, by decide, by decide +kernel⟩ ⟨by rw [r1]; exact hf, by rw [r2]; omega⟩) ⟨gPc_blind, fun U hU hW => ⟨rfl, gKN_warm hW hKN, by rw [hU]; exact gRH_moved hW.alike hR⟩⟩ rfl rfl hL.1 rfl (lv_room (by rw [gcat_cv]; exact hcat)) hd ⟨by omega, by omega⟩) ?_
  intro w st₀ t L1 hh0 hal hL1 hq
  obtain ⟨h1, h2⟩ := hq
  cases h1
  have k1 := k ls t.heap (locs ++ L1) (cells + mc) (slots + ms) hL (gRH_moved hal.symm h2) (fun q hq => (List.mem_append.mp hq).elim (hl q) (hL1 q)) (by omega) (by omega)
  rw [List.map_append] at k1
  rw [g_mapval]
  exact k1
theorem gWB1 (hst : l.stackTraces = false) : gWB l D B ex H0 gBI1 := by
  intro p e R s m args below meth c Q cc nL own nm n0 u0 pc L rest S i kd idx j na ax as v1 S1 X hi hd hck has hcat hf hl hBI hr1 hr2 k
  rcases hBI with h | ⟨rfl, w1, w2, rfl, h⟩
  · exact gWB0 p e R s m args below meth c Q cc nL own nm n0 u0 pc L rest S i kd idx j na ax as v1 S1 X hi hd hck has hcat hf hl h hr1 hr2 k
  · unfold gchkB at hck
    split at hck
    case h_2 => cases hck
    rename_i j2 na2 ne ps p1 p2 heq
    cases heq
    simp only [Bool.and_eq_true, decide_eq_true_eq, beq_self_eq_true, true_and] at hck
    obtain ⟨hin, hlk⟩ := hck
    have hk2 : kd = 0 := by simp at hin; exact hin.1
    subst hk2
    rcases hi with ⟨h0, -⟩ | ⟨h0, -⟩ | ⟨-, rfl⟩
    · cases h0
    · cases h0
    · have hlk2 := gtb_good (w := Cond.methodLink own idx y_lk) hlk rfl
      rcases h with ⟨f, x, S2, fl, hER, hrc, h83, rfl, rfl⟩ | ⟨N, fs, h0, h1, hN, hS, hno, rfl, rfl⟩
      · have hm := gER_mono gBI0_mono _ _ _ _ _ _ _ _ _ hER
        exact g_lk X (lk_metA hER hrc h83) rfl rfl rfl rfl (by show S2.1 = S.1 + (S2.1 - S.1); omega) (by show S2.2.1 = S.2.1 + (S2.2.1 - S.2.1); omega) hlk2 hf hl hcat hr1 hr2 hd k
      · exact g_lk X (lk_metT hst h0 h1 hN hS hno) rfl rfl rfl rfl rfl rfl hlk2 hf hl hcat hr1 hr2 hd k
end GLM
