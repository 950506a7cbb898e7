def R_law : String := "GiftShopsLaw"
def lw_P (b : Addr) (xs : List Int32) (args : Array Value) (s : State) : Prop := args = #[.ref b] ∧ s.IntsAt b xs ∧ xs.length ≤ 3584 ∧ (Jvm.Cond.and given_1 narrow_1).before args s = true
def lw_Q (_ : Array Value) (s : State) (o : Outcome) (t : State) : Prop := o = .returned (some (.int 1)) ∧ Framed s o t [] 601024 7293034
def lw_Z (below : List Frame) (a : Array Value) (s : State) : State → Prop := fun t => ∃ o, t.status = .running ∧ Ended t below o ∧ lw_Q a s o t
/-- the law's own end, with 1 on the stack, nothing written that was there before, its room as the claim has it -/
theorem lw_ret {p : Program} {l : Launch} {e : Env} {s : State} {m : MethodId} {below : List Frame} {meth : Method} {c : Code} {b : Nat} (hx : p.tables.exec = Jvm.exec) (hb : c.code = code) (hr : meth.sig.returnType = ret) (hlocks : meth.locks = false) {pc : Nat} {H : Heap} {ls : Array Slot} (hdg : decode code pc = .ok (.ireturn, 1)) : W p l e room_1 s m #[Value.ref b] below meth c H [] 601024 7293034 (lw_Z below #[Value.ref b] s) (F0 m pc ls [.int 1]) := by
  intro T hT X
  obtain ⟨fs, hret, hrun, hended, hW, hframe⟩ := X.leave (v := some (.int 1)) (hlocks := hlocks) (fun h => by rw [hr] at h; cases h)
  have hmeth' : T.vm.method? m = some meth := X.method'
  refine ⟨T.setFrames fs, ?_, .returned (some (.int 1)), hrun, hended, rfl, ⟨_, rfl⟩, hW, hframe⟩
  jvm_step X.here [X.here.top, hx, hb, hdg, hmeth', hr, ret, narrow_b1]
  (try refine ⟨rfl, ?_⟩); (try refine ⟨rfl, ?_⟩)
  first | (intro acts; rw [hret _ acts rfl rfl rfl]) | rw [hret _ _ rfl rfl rfl]
  exact Steps.refl _
/-- what holds at the law's entry: the machine, the code, the tables' words (any of lw_tbl by 'hts w (by decide +kernel)'), the script of L ints xs at the cell b, what the Statement gives of the start (any of its parts by flat_of_before) -/
def lw_At (p : Program) (s : State) (m : MethodId) (meth : Method) (c : Code) (b L : Nat) (xs : Nat → Int32) : Prop :=
  p.tables.exec = Jvm.exec ∧ c.code = code ∧ meth.sig.returnType = ret ∧ c.maxLocals = 7 ∧ s.vm.findClass R_law = some m.cls ∧ (∀ w ∈ lw_tbl, w.before #[Value.ref b] s = true) ∧ va_X b L xs s s.heap ∧ b < s.heap.size ∧ meth.locks = false ∧ (Jvm.Cond.and given_1 narrow_1).before #[Value.ref b] s = true
/-! ===== the start ===== -/
def e_tm (i : Nat) : Term := match i with
  | 0 => .string RX4 64
  | _ => .string RX4 52
def e_F : List Cond := flatC (Jvm.Cond.and given_1 narrow_1)
theorem e_ex : ∀ i, i < 2 → Cond.exactly (e_tm i) "java/lang/String" ∈ e_F := by decide +kernel
theorem e_co : ∀ i, i < 2 → Cond.eq (.field (e_tm i) "java/lang/String" "coder" "B") (.int 0) ∈ e_F := by decide +kernel
theorem e_ar : ∀ i, i < 2 → Cond.arrayOf (.field (e_tm i) "java/lang/String" "value" "[B") .byte ∈ e_F := by decide +kernel
theorem e_le : ∀ i, i < 2 → Cond.eq (.length (.field (e_tm i) "java/lang/String" "value" "[B")) (.int (Int32.ofNat ([96, 7].getD i 0))) ∈ e_F := by decide +kernel
theorem e_el : ∀ i, i < 2 → ∀ j, j < [96, 7].getD i 0 → Cond.eq (.elem (.field (e_tm i) "java/lang/String" "value" "[B") (.int (Int32.ofNat j))) (.int (([gby1, gby2].getD i []).getD j 0)) ∈ e_F := by decide +kernel
theorem e_ne : ∀ i, i < 2 → ∀ j, j < 2 → i ≠ j → Cond.not (Cond.eq (e_tm i) (e_tm j)) ∈ e_F ∨ Cond.not (Cond.eq (e_tm j) (e_tm i)) ∈ e_F := by decide +kernel
theorem e_cs : Cond.eq (.static "java/lang/String" "COMPACT_STRINGS" "Z") (.int 1) ∈ e_F := by decide +kernel
theorem e_si : Cond.isRef (.static "jdk/internal/util/Preconditions" "SIOOBE_FORMATTER" "Ljava/util/function/BiFunction;") ∈ e_F := by decide +kernel
theorem e_us : Cond.isRef (.static Bundle.tN "UNASSIGNED_STACK" Bundle.steD) ∈ e_F := by decide +kernel
theorem e_ss : Cond.isRef (.static Bundle.tN "SUPPRESSED_SENTINEL" Bundle.listD) ∈ e_F := by decide +kernel
theorem e_gcl : ∀ q ∈ gcl, (∀ w ∈ u_ws q.1 q.2.1 q.2.2, w ∈ tables_1) ∧ Cond.instantiable q.1 q.2.2 ∈ tables_1 := by decide +kernel
theorem e_ao : ∀ C ∈ gAO, Cond.arrayOver (.object C) ∈ tables_1 := by decide +kernel
theorem e_w (i : Nat) {w : Cond} (h : tables_1[i]? = some w) : w ∈ tables_1 := List.mem_of_getElem? h
theorem e_known {s : State} {args : Array Value} (htb : ∀ w ∈ tables_1, w.before args s = true) : ∃ D : va_G, va_K D gcl [] s := by
  have hD : ∀ c : Nat, ∃ d : ClassId × (Nat → Nat), ∀ q, gcl[c]? = some q → u_Kn s q.1 q.2.1 q.2.2 d.1 d.2 := by
    intro c
    by_cases hc : ∃ q, gcl[c]? = some q
    · obtain ⟨q, hq⟩ := hc
      obtain ⟨h1, h2⟩ := e_gcl q (List.mem_of_getElem? hq)
      obtain ⟨cC, iS, hk⟩ := u_known htb h1 (htb _ h2)
      refine ⟨(cC, iS), fun q' h => ?_⟩
      cases Option.some.inj (hq.symm.trans h)
      exact hk
    · exact ⟨(0, fun _ => 0), fun q h => absurd ⟨q, h⟩ hc⟩
  exact ⟨(fun c => (Classical.choose (hD c)).1, fun c => (Classical.choose (hD c)).2), fun c q hq => Classical.choose_spec (hD c) q hq, fun k q hk => by simp at hk⟩
theorem whole_start {p : Program} {e : Env} {s : State} {m : MethodId} {below : List Frame} {meth : Method} {c : Code} (l : Launch) (hst : l.stackTraces = false) (hnm : meth.name = "law") {b L : Nat} {xs : Nat → Int32} (hL : L ≤ 3584) (C0 : lw_At p s m meth c b L xs) : W p l e room_1 s m #[Value.ref b] below meth c s.heap [] 0 0 (lw_Z below #[Value.ref b] s) (entryFrame m ([Value.ref b] : List Value).toArray 7) := by
  obtain ⟨hx, hb, hr, hml, hown, hts, hX, hbl, hlocks, hgv⟩ := C0
  have hF : ∀ w ∈ e_F, w.before #[Value.ref b] s = true := flat_of_before _ hgv
  have htb : ∀ w ∈ tables_1, w.before #[Value.ref b] s = true := fun w h => hts w (List.mem_append_right _ h)
  have hA : ∀ a : Nat, a < s.heap.size → ¬ s.heap.size ≤ a := fun a h => by omega
  obtain ⟨adK, adV, hSs, hev⟩ := vk_Sof (args := #[Value.ref b]) (s := s) (N := 2) (tm := e_tm) (len := [96, 7]) (byt := [gby1, gby2]) (A := fun q => s.heap.size ≤ q) (by decide) (fun i hi => hF _ (e_ex i hi)) (fun i hi => hF _ (e_co i hi)) (fun i hi => hF _ (e_ar i hi)) (fun i hi => hF _ (e_le i hi)) (fun i hi j hj => hF _ (e_el i hi j hj)) (fun i j hi hj hn => (e_ne i hi j hj hn).elim (fun h => Or.inl (hF _ h)) (fun h => Or.inr (hF _ h))) hA
  obtain ⟨D, hK⟩ := e_known htb
  obtain ⟨a3, h3⟩ : ∃ a3 : Nat, (Term.string RX9 221).eval #[Value.ref b] s none [] s = some (.ref a3) := by
    obtain ⟨k, cf, i, a, -, -, -, -, -, h⟩ := Cond.stringRef_spec (cls := RX9) (index := 221) (text := gtxt3) (hK.1 9 _ (show gcl[9]? = some _ from rfl)).2.1 (htb (.stringRef RX9 221 gtxt3) (e_w 799 (by decide +kernel)))
    exact ⟨a, h⟩
  obtain ⟨ex, x1, x2, x3, x4⟩ : ∃ ex : Nat → Nat, ex 1000000000 = b ∧ ex 2000000001 = adK 0 ∧ ex 2000000002 = adK 1 ∧ ex 2000000003 = a3 := ⟨fun k => if k = 1000000000 then b else if k = 2000000001 then adK 0 else if k = 2000000002 then adK 1 else a3, rfl, rfl, rfl, rfl⟩
  have hex : ∀ i, i < 2 → ex (2000000001 + i) = adK i := by
    intro i hi
    match i, hi with
    | 0, _ => exact x2
    | 1, _ => exact x3
  have hS2 : vk_S 2 [96, 7] [gby1, gby2] (fun i => ex (2000000001 + i)) adV (fun q => s.heap.size ≤ q) s s.heap := by
    refine ⟨fun i hi => ?_, fun i j hi hj h => ?_⟩
    · have h9 := hSs.1 i hi
      rw [← hex i hi] at h9
      exact h9
    · dsimp only at h
      rw [hex i hi, hex j hj] at h
      exact hSs.2 i j hi hj h
  have hJF : gJF s s.heap.size ex s.heap := ⟨adV, va_Zof (htb (.laysStatic "java/lang/String" "COMPACT_STRINGS" "Z") (e_w 348 (by decide +kernel))) (htb (.initialized "java/lang/String") (e_w 11 (by decide +kernel))) (va_eqi (hF _ e_cs)) hA,
    va_Zqof (htb (.laysStatic "jdk/internal/util/Preconditions" "SIOOBE_FORMATTER" "Ljava/util/function/BiFunction;") (e_w 356 (by decide +kernel))) (htb (.initialized "jdk/internal/util/Preconditions") (e_w 13 (by decide +kernel))) (hF _ e_si) hA, hS2,
    vx_Zqof (htb (.laysStatic Bundle.tN "UNASSIGNED_STACK" Bundle.steD) (e_w 787 (by decide +kernel))) (htb (.initialized Bundle.tN) (e_w 19 (by decide +kernel))) (hF _ e_us) hA,
    vx_Zqof (htb (.laysStatic Bundle.tN "SUPPRESSED_SENTINEL" Bundle.listD) (e_w 789 (by decide +kernel))) (htb (.initialized Bundle.tN) (e_w 19 (by decide +kernel))) (hF _ e_ss) hA⟩
  have hKN : gKN D ex s := by
    refine ⟨hK, fun w hw => ?_, fun C hC => va_AO.of (htb _ (e_ao C hC)), ?_, ?_, ?_⟩
    · obtain ⟨h1, h2⟩ := List.mem_filter.mp hw
      exact va_tabs (lk_ns w h2) rfl (hts w h1)
    · rw [x2]; exact vk_R.of (htb (.stringRef RX4 64 gtxt1) (e_w 338 (by decide +kernel))) (hev 0 (by decide))
    · rw [x3]; exact vk_R.of (htb (.stringRef RX4 52 gtxt2) (e_w 383 (by decide +kernel))) (hev 1 (by decide))
    · rw [x4]; exact vk_R.of (htb (.stringRef RX9 221 gtxt3) (e_w 799 (by decide +kernel))) h3
  obtain ⟨y, hy1, hy2⟩ : ∃ y : gH, y 1000000000 = .inl (.int, L, .inl xs) ∧ ∀ k, k ≠ 1000000000 → y k = gz := ⟨fun k => if k = 1000000000 then .inl (.int, L, .inl xs) else gz, rfl, fun k hk => by simp [hk]⟩
  obtain ⟨f, v, S', hrun, rfl, K, hK6, hJ⟩ := law_run hy1 (by omega)
  obtain ⟨n, u, w, a, bb, r, q, D9, x9, z, N, M, T, o, p9, st9, rfl, hj⟩ := hJ
  obtain ⟨-, hn, hu, -⟩ := hj
  have hRH : gRH D s s.heap.size ex s.heap (0, 0, y) s.heap := by
    refine ⟨rfl, Nat.zero_le _, ⟨rfl, hJF⟩, fun _ _ => rfl, fun k hk hz => absurd (hy2 k (by omega)) hz, fun k hk hz => ?_⟩
    by_cases e1 : k = 1000000000
    · subst e1
      dsimp only at hz ⊢
      rw [hy1]
      obtain ⟨scr, g1, g2, g3, g4, g5⟩ := hX
      exact ⟨scr, by rw [x1]; exact g1, g2, g3, g4, g5⟩
    · exact absurd (hy2 k e1) hz
  have hrow : gMT[162]? = some gro_162 := rfl
  have hG := gsim gMT_ok gBI1_mono (gWB1 (D := D) (B := s.heap.size) (ex := ex) (H0 := s.heap) hst) f 70 162 0 _ [] (0, 0, y) _ _ hrun gro_162 hrow p e room_1 s m #[Value.ref b] below meth c (lw_Z below #[Value.ref b] s) 0 0
    ⟨hx, hb, hml, hown, fun w hw => hts w (List.mem_filter.mp hw).1, hnm, hKN⟩ (by decide) (by decide) (by show n ≤ 0 + 601024; omega) (by show u ≤ 0 + 7293034; omega) ?_
  · rw [lg_entry_eq]
    have hls := g_entry (B := s.heap.size) (ex := ex) (as := [.ref 1000000000]) (n := 7) (Nat.le_of_ble_eq_true rfl)
    have e1 : ([Value.ref 1000000000] : List Value).map (gcv s.heap.size ex) = [Value.ref b] := by
      show [Value.ref (ex 1000000000)] = _
      rw [x1]
    rw [e1] at hls
    exact hG _ s.heap [] 0 0 hls hRH (fun q h => by cases h) rfl rfl
  · intro pc ls H locs cells slots hret hR hl hc hs
    rcases hret with ⟨h9, -, -⟩ | ⟨x, hxv, -, hd⟩
    · cases h9
    · have hc2 : cells ≤ 601024 := by
        have h9 : 0 + cells = n := hc
        omega
      have hs2 : slots ≤ 7293034 := by
        have h9 : 0 + slots = u := hs
        omega
      exact va_forget hl (W.widen hc2 hs2 (lw_ret hx hb hr hlocks hd))
set_option maxHeartbeats 4000000 in
theorem lw_walk (l : Launch) (hst : l.stackTraces = false) (b : Addr) (xs : List Int32) : MetFree l x (headSpec (Jvm.Cond.code x code maxLocals ret :: tables_1) room_1) (lw_P b xs) (fun _ _ _ _ _ => True) lw_Q := by
  refine MetFree.of_bodyS (code := code) (maxLocals := maxLocals) (ret := ret) (by decide) ?_ ?_
  · intro args s m h hn
    obtain ⟨meth, c, h1, h2, h3, h4, h5, h6, -, -⟩ := Cond.code_spec hn (atoms_spec (ws := Jvm.Cond.code x code maxLocals ret :: tables_1) h _ List.mem_cons_self)
    exact ⟨meth, c, h1, h2, h3, h4, h5, h6⟩
  · intro p e s m args below meth c s₁ B hml0 hP _
    obtain ⟨rfl, hx, hbd, hgv⟩ := hP
    obtain ⟨scr, harrAt, hlist, hof, hsmall⟩ := hx
    obtain ⟨hcb, hkn, -, -⟩ := State.arrayAt?_spec harrAt
    have hown : s.vm.findClass R_law = some m.cls := findClass_of_methodNamed B.named
    have hts0 : ∀ c ∈ (Jvm.Cond.code x code maxLocals ret :: tables_1), c.before #[Value.ref b] s = true := atoms_spec (ws := Jvm.Cond.code x code maxLocals ret :: tables_1) B.pre
    have hts : ∀ w ∈ lw_tbl, w.before #[Value.ref b] s = true := k2_hts_sels lw_privs (fun w hw => hts0 w (List.mem_cons_of_mem _ hw)) lw_privs_ok
    have hml : c.maxLocals = 7 := B.maxLocals_eq (hts0 _ List.mem_cons_self)
    have X₀ : Stand p l e room_1 s m #[Value.ref b] below meth c s₁ [] 0 0 := Stand.of_body B
    have hh0 : s₁.heap = s.heap := by rw [B.state]; rfl
    have hsz : scr.slots.size = xs.length := by rw [← Array.length_toList, hlist, List.length_map]
    have hval : ∀ j : Nat, j < xs.length → scr.slots[j]? = some (.int (xs.getD j 0)) := fun j hj => by
      rw [← Array.getElem?_toList, hlist]
      simp [hj]
    have hbl : b < s.heap.size := (Array.getElem?_eq_some_iff.mp hcb).1
    have hX : va_X b xs.length (fun j => xs.getD j 0) s s.heap := ⟨scr, hcb, hof, hkn, hsz, hval⟩
    have K : W p l e room_1 s m #[Value.ref b] below meth c s₁.heap [] 0 0 (lw_Z below #[Value.ref b] s) (entryFrame m ([Value.ref b] : List Value).toArray 7) := by
      rw [hh0]
      exact whole_start l hst (name_of_methodNamed B.named B.method).1 hbd ⟨B.exec, B.bytes, B.returns, hml, hown, hts, hX, hbl, B.notSynchronized, hgv⟩
    obtain ⟨t, a1, o, b1, b2, b3⟩ := K s₁ rfl X₀
    exact ⟨t, o, a1, b1, b2, b3⟩
theorem lw_pre_spec {args : Array Value} {s : State} (h : (Jvm.Cond.and given_1 narrow_1).before args s = true) (hr : rest_1_c.before args s = true) : ∃ (b : Addr) (xs : List Int32), lw_P b xs args s := by
  have hs := flat_of_before _ h
  have hq := flat_of_before _ hr
  have hc : (Cond.count 1).before args s = true := hs _ (by decide +kernel)
  have harr : (Cond.arrayOf (.arg 0) .int).before args s = true := hs _ (by decide +kernel)
  have hle : (Cond.le (.length (.arg 0)) (.int 3584)).before args s = true := hs _ (by decide +kernel)
  have hlen : (Cond.isInt (.length (.arg 0))).before args s = true := hq _ (by decide +kernel)
  have hall : (Cond.all (.arg 0) (.isInt (.elem (.arg 0) (.index 0)))).before args s = true := hq _ (by decide +kernel)
  obtain ⟨b, xs, hb, hx⟩ := State.ints_of_pre rfl harr hlen hall
  have hsm : xs.length < 2 ^ 31 := hx.choose_spec.2.2.2
  have hev : (Term.length (.arg 0)).eval args s none [] s = some (.int xs.length.toInt32) := hx.length_eval hb
  have hv := Cond.le_ints hev (show (Term.int 3584).eval args s none [] s = some (.int 3584) from rfl)
  have hd : xs.length.toInt32 ≤ 3584 := by
    simpa [Cond.before, Cond.holds, hv] using hle
  have hN : xs.length ≤ 3584 := (Int32.ofNat_le_ofNat hsm (by decide)).mp (show Int32.ofNat xs.length ≤ Int32.ofNat 3584 from hd)
  exact ⟨b, xs, Cond.one_arg hc (show args[0]? = some (.ref b) from hb), hx, hN, h⟩
theorem lw_comes (l : Launch) (hst : l.stackTraces = false) : Comes l x (Jvm.Cond.code x code maxLocals ret :: tables_1) room_1 (fun tb e args s => Calls_1 tb e args s ∧ rest_1 tb e args s ∧ Pre_1 tb e args s)
    (fun _ _ args s o t => lw_Q args s o t) := by
  intro p e ha hc hk s m args below hf hfit hheap happ hpre
  obtain ⟨b, xs, hP⟩ := lw_pre_spec hpre.2.2 hpre.2.1
  obtain ⟨k, o, h1, h2, h3, hQ⟩ := lw_walk l hst b xs p e ha hc hk s m args below hf ((Spec.applies_iff_loose hf).mp happ).1 hP trivial
  exact ⟨k, o, h1, h2, h3, hQ⟩
theorem lw_frame {s t : State} {o : Outcome} {args : Array Value} (h : Framed s o t [] 601024 7293034) :
    Framed s o t (fieldLocs frame_1_writes args s ++ arrayLocs frame_1_arrays args s ++ staticLocs frame_1_statics s) 601024 7293034 := h
theorem lw_limb (L : Cond) (hL : ∀ (args : Array Value) (s t : State), L.after args s (.returned (some (.int 1))) t = true) :
    ArmFor flags0 classFile x code maxLocals ret World_1 tables_1 room_1 Calls_1 rest_1 Pre_1
      (fun tb e a s o t => postC L tb e a s o t ∧ Framed s o t (fieldLocs frame_1_writes a s ++ arrayLocs frame_1_arrays a s ++ staticLocs frame_1_statics s) 601024 7293034) := by
  intro l hf1 hf2 hf3 p e ha hc hk s m args below hf hfit hheap happ hpre
  have hst : l.stackTraces = false := by
    first
      | (unfold Launch.stackTraces; rw [hf1]; decide)
      | (unfold Launch.stackTraces; rw [hf2]; decide)
      | (unfold Launch.stackTraces; rw [hf3]; decide)
  obtain ⟨k, o, h1, h2, h3, rfl, hF⟩ := lw_comes l hst p e ha hc hk s m args below hf hfit hheap happ hpre
  exact ⟨k, _, h1, h2, h3, hL args s _, lw_frame hF⟩
theorem i_vc : Claimed_1_1 ∧ Claimed_1_2 := ⟨lw_limb limb_1_1 (fun args s t => by simp [limb_1_1, Cond.after, Cond.holds, Cond.value]), lw_limb limb_1_2 (fun args s t => Cond.after_iff.mpr (by
  first | (rw [show limb_1_2 = Cond.eq .result (.int 1) from rfl, Cond.eq_ints (x := 1) (y := 1) rfl rfl]; simp; done) | (simp [limb_1_2, Cond.value, Term.eval]; done)))⟩
