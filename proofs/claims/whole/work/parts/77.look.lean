/-! ===== the law's look: it answers, or the class throws and the law catches ===== -/
theorem gRH_grow {D : va_G} {U : State} {B : Nat} {ex : Nat → Nat} {H0 H H1 : Heap} {S : gS} (n : Nat) (h : gRH D U B ex H0 S H) (hn : S.1 < 1000000) (z : H1.size = H.size + 1) (oq : ∀ q : Nat, q < H.size → H1[q]? = H[q]?) : gRH D U B ex H0 (S.1 + 1, n, S.2.2) H1 := by
  obtain ⟨h1, h2, h3, h4, h5, h6⟩ := h
  refine ⟨by rw [z, h1]; rfl, by dsimp only; omega, h3, fun q hq => ?_, fun j hj hjz => ?_, fun j hj hjz => h6 j hj hjz⟩
  · rw [oq q (by omega)]
    exact h4 q hq
  · have h9 := h5 j hj hjz
    exact ⟨by dsimp only; omega, gat_kept h9.2 (oq (B + j) (by omega))⟩
theorem gmok_dec {MT : List gR} {row : gR} (h : gMOK MT row) : ∀ q ∈ row.2.2.2.2, decode row.2.1 q.1 = .ok (q.2.1, q.2.2.1) := by obtain ⟨-, -, -, -, h, -⟩ := h; exact h
theorem gmok_chk {MT : List gR} {row : gR} (h : gMOK MT row) : ∀ q ∈ row.2.2.2.2, gchk row.1.cls row.1.name q = true := by obtain ⟨-, -, -, -, -, h, -⟩ := h; exact h
theorem gmok_chi {MT : List gR} {row : gR} (h : gMOK MT row) : ∀ q ∈ row.2.2.2.2, gchkI MT row.1.cls q = true := by obtain ⟨-, -, -, -, -, -, h, -⟩ := h; exact h
theorem gmok_pl {MT : List gR} {row : gR} (h : gMOK MT row) : plainName row.1.cls = true := by obtain ⟨-, -, h, -⟩ := h; exact h
def nse : String := "java/util/NoSuchElementException"
section GLK
variable {l : Launch} {D : va_G} {B : Nat} {ex : Nat → Nat} {H0 : Heap}
section GGS
variable {p : Program} {e : Env} {R : Room} {s : State} {m : MethodId} {args : Array Value} {below : List Frame} {meth : Method} {c : Code} {Q : State → Prop} {cc : ByteArray} {nL : Nat} {own nm : String} {n0 u0 pc : Nat} {L : gL} {st : List Value} {S : gS} {row : gR}
theorem gg_step {MT : List gR} {i : Instr} {len : Nat} {ax : List Nat} {w : Value} {pc' : Nat} {L' : gL} {st' : List Value} {S1 : gS} (hok : gMOK MT row) (X : gCx p s m args meth c row.2.1 row.2.2.1 row.1.cls row.1.name D ex) (hq : glook row.2.2.2.2 pc = some (i, len, ax, w)) (hs : gstep i len ax w pc L st S = some (pc', L', st', S1)) (hr1 : S1.1 ≤ n0 + R.cells) (hr2 : S1.2.1 ≤ u0 + R.slots)
    (k : gG p l e R s m args below meth c Q row.2.2.1 D B ex H0 n0 u0 pc' L' st' S1) : gG p l e R s m args below meth c Q row.2.2.1 D B ex H0 n0 u0 pc L st S := by
  have hmem := glook_mem hq
  have hdc := gmok_dec hok _ hmem
  have hck := gmok_chk hok _ hmem
  dsimp only at hdc hck
  exact gstep_sim X hs hdc hck hr1 hr2 k
theorem gg_call {i : Instr} {kd idx j na f d : Nat} {ax : List Nat} {cr : gR} {v1 : Option Value} {S1 : gS} (X : gCx p s m args meth c cc nL own nm D ex) (hi : (kd = 1 ∧ i = .invokevirtual idx) ∨ (kd = 2 ∧ i = .invokespecial idx) ∨ (kd = 0 ∧ i = .invokestatic idx)) (hd : decode cc pc = .ok (i, 3)) (hcr : gMT[j]? = some cr) (hca : gchkJ gMT own kd idx 3 (j :: na :: ax) = true) (hna : na ≤ st.length) (hcat : gcat (st.drop na) ≤ 8) (hkind : gkind i S cr.1.cls (st.take na).reverse)
    (hlen : (gent (st.take na).reverse).length ≤ cr.2.2.1) (hE : gER gMT gBI0 f d j 0 (gpad (gent (st.take na).reverse) cr.2.2.1) [] S v1 S1) (hdr : d + 1 ≤ R.frames) (hdl : 40 * (d + 1) ≤ R.locals) (hr1 : S1.1 ≤ n0 + R.cells) (hr2 : S1.2.1 ≤ u0 + R.slots) (k : gG p l e R s m args below meth c Q nL D B ex H0 n0 u0 (pc + 3) L (v1.toList ++ st.drop na) S1) : gG p l e R s m args below meth c Q nL D B ex H0 n0 u0 pc L st S := by
  have hm0 := gER_mono gBI0_mono _ _ _ _ _ _ _ _ _ hE
  have hokc := gMT_ok cr (List.mem_of_getElem? hcr)
  have hM := gmet_of (l := l) (D := D) (B := B) (ex := ex) (H0 := H0) (as := (st.take na).reverse) hokc hcr hm0.1 hm0.2 hlen (gsim gMT_ok gBI0_mono gWB0 f d j 0 _ [] S v1 S1 hE)
  exact gs_call (d := d) X hi hd hcr hca hokc hna hcat hkind hM hm0.1 hm0.2 hdr hdl hr1 hr2 k
theorem gg_within {idx : Nat} {ax : List Nat} {w : Value} {x : Int32} {M : Nat} {r : List Value} (hok : gMOK gMT row) (X : gCx p s m args meth c row.2.1 row.2.2.1 row.1.cls row.1.name D ex) (hq : glook row.2.2.2.2 pc = some (.invokestatic idx, 3, 9 :: 2 :: ax, w)) (hM : M < 2 ^ 31) (hcat : gcat r ≤ 8) (hf : 2 ≤ R.frames) (hl : 80 ≤ R.locals) (hr1 : S.1 ≤ n0 + R.cells) (hr2 : S.2.1 ≤ u0 + R.slots)
    (kt : gin x M → gG p l e R s m args below meth c Q row.2.2.1 D B ex H0 n0 u0 (pc + 3) L (.int 1 :: r) S) (kf : ¬ gin x M → gG p l e R s m args below meth c Q row.2.2.1 D B ex H0 n0 u0 (pc + 3) L (.int 0 :: r) S) : gG p l e R s m args below meth c Q row.2.2.1 D B ex H0 n0 u0 pc L (.int (nI M) :: .int x :: r) S := by
  obtain ⟨cr, hcr, hlen, f, v, S1, hrun, hb⟩ := c_within 1 S x M hM
  obtain ⟨hb, rfl⟩ := hb
  have hmem := glook_mem hq
  have hdc := gmok_dec hok _ hmem
  have hci := gmok_chi hok _ hmem
  dsimp only at hdc hci
  have hca : gchkJ gMT row.1.cls 0 idx 3 (9 :: 2 :: ax) = true := gchkI_call (kd := 0) (idx := idx) (Or.inr (Or.inr ⟨rfl, rfl⟩)) hci
  refine gg_call (kd := 0) (idx := idx) (j := 9) (na := 2) (d := 1) (f := f) (cr := cr) X (Or.inr (Or.inr ⟨rfl, rfl⟩)) hdc hcr hca (by simp) hcat trivial hlen hrun hf hl hr1 hr2 ?_
  rcases hb with ⟨hc, rfl⟩ | ⟨hc, rfl⟩
  · exact kt hc
  · exact kf hc
theorem gx_call {H : Heap} {locs : List Loc} {cells slots mc ms : Nat} {ls : Array Slot} {st0 rest : List Value} {free : Addr → Prop} {Qa : State → Outcome → State → Prop} {XC : String → State → State → Prop} (hr : vx_Run p l e R s m args below meth c H locs cells slots mc ms (F0 m pc ls st0) rest Qa XC free) (hno : ∀ st₀ v t, ¬ Qa st₀ (.returned v) t)
    (kx : ∀ (E : String) (ce : Cell) (q9 : Addr) (st₀ t : State) (L : List Loc), st₀.heap = H → s.vm.Alike t.vm → (∀ z ∈ L, free z.base) → XC E st₀ t → t.heap[q9]? = some ce → ce.vm = .none → s.vm.findClass E = some ce.cls → vx_W p l e R s m args below meth c t.heap (locs ++ L) (cells + mc) (slots + ms) Q (F0 m pc ls rest) q9) : W p l e R s m args below meth c H locs cells slots Q (F0 m pc ls st0) := by
  intro T hT X
  rcases hr T hT X with ⟨v, st₀, t, T', L, h0, X', hL, e1, e2, hq, st⟩ | ⟨q, st₀, t, T', L, E, ce, h0, X', hL, e1, e2, hq, hce, hcv, hcl, st⟩
  · exact absurd hq (hno _ _ _)
  · obtain ⟨t2, a1, b1⟩ := kx E ce q st₀ t L h0 (by rw [← e2]; exact X'.warmed.alike) hL hq hce hcv hcl T' e1 X'
    exact ⟨t2, st.trans a1, b1⟩
end GGS
theorem t_760 : Cond.classLink RX9 219 nse ∈ gGW := gtb_good (ps := 760) (by decide +kernel) rfl
theorem t_22 : Cond.initialized nse ∈ gGW := gtb_good (ps := 22) (by decide +kernel) rfl
theorem t_755 : Cond.classLink "GiftShopsLaw" 13 nse ∈ gGW := gtb_good (ps := 755) (by decide +kernel) rfl
theorem t_762 : Cond.castable nse nse ∈ gNW := gtb_nest (ps := 762) (by decide +kernel) rfl
theorem d_look_19 : decode prog_1_method_26_code 19 = .ok (.new 219, 3) := by decide +kernel
theorem d_look_22 : decode prog_1_method_26_code 22 = .ok (.dup, 1) := by decide +kernel
theorem d_look_23 : decode prog_1_method_26_code 23 = .ok (.ldc 221, 2) := by decide +kernel
theorem d_look_25 : decode prog_1_method_26_code 25 = .ok (.invokespecial 223, 3) := by decide +kernel
theorem d_look_28 : decode prog_1_method_26_code 28 = .ok (.athrow, 1) := by decide +kernel
theorem d_ns_0 : decode prog_22_method_4_code 0 = .ok (.aload_n 0, 1) := by decide +kernel
theorem d_ns_1 : decode prog_22_method_4_code 1 = .ok (.aload_n 1, 1) := by decide +kernel
theorem d_ns_2 : decode prog_22_method_4_code 2 = .ok (.invokespecial 13, 3) := by decide +kernel
theorem d_ns_5 : decode prog_22_method_4_code 5 = .ok (.return_, 1) := by decide +kernel
def lkN : List String := ["java/lang/Exception"]
def lkF : String := "java/lang/RuntimeException"
theorem lk_at : ∀ w ∈ vx_atX RX9 223 nse lkF 13 prog_22_method_4_code lkN, w ∈ tables_1 ∧ (goodWord w = true ∨ gnest w = true) := by decide +kernel
theorem lk_ot : ∀ w ∈ Cond.classLink RX9 219 nse :: Cond.initialized nse :: vx_atX RX9 223 nse lkF 13 prog_22_method_4_code lkN, vx_ot w = true := by decide +kernel
theorem lk_ns : ∀ w : Cond, gnest w = true → w.onTables = true := by intro w h; cases w <;> first | rfl | (simp [gnest] at h)
def lkrm : Room := { frames := 8, cells := 1, slots := 6, locals := 320 }
def lkXC (D : va_G) (B : Nat) (ex : Nat → Nat) (H0 : Heap) (S' : gS) : String → State → State → Prop := fun E _ t => E = nse ∧ gRH D t B ex H0 S' t.heap
theorem lk_thr {S : gS} {v1 v2 : Int32} {N : Nat} {fs : List Value} (hst : l.stackTraces = false) (h0 : S.2.2 0 = .inr (9, fs)) (h1 : fs[1]? = some (.int (nI N))) (hN : N ≤ 100) (hS : S.1 < 1000000) (hno : ¬ (gin v1 N ∧ gin v2 5)) :
    vx_Met l (gro_91).1 (gws gro_91) lkrm (gPc D B ex H0 [.ref 0, .int v1, .int v2] S) (fun _ _ _ _ => False) (lkXC D B ex H0 (S.1 + 1, S.2.1 + 6, S.2.2)) 1 6 (fun q => B ≤ q) := by
  have hk : gMT[91]? = some gro_91 := rfl
  have hok := gMT_ok _ (List.mem_of_getElem? hk)
  refine vx_ofW (cc := (gro_91).2.1) (maxL := (gro_91).2.2.1) (ret := (gro_91).2.2.2.1) (gmok_pl hok) rfl ?_
  intro p e s m args below meth c s₁ Bd hml htab hv
  obtain ⟨rfl, hKN, hRH⟩ := hv
  have hts0 := atoms_spec (ws := gws gro_91) Bd.pre
  have hts : ∀ w ∈ gGW, w.before _ s = true := fun w hw => hts0 w (List.mem_cons_of_mem _ hw)
  have X : gCx p s m _ meth c (gro_91).2.1 (gro_91).2.2.1 (gro_91).1.cls (gro_91).1.name D ex := ⟨Bd.exec, Bd.bytes, hml, findClass_of_methodNamed Bd.named, hts, (name_of_methodNamed Bd.named Bd.method).1, hKN⟩
  have hlocks := Bd.notSynchronized
  rw [lg_entry_eq]
  have hthr : gG p l e (headSpec (gws gro_91) lkrm).room s m (([.ref 0, .int v1, .int v2] : List Value).map (gcv B ex)).toArray below meth c (vx_MQ below (fun _ _ _ _ => False) (lkXC D B ex H0 (S.1 + 1, S.2.1 + 6, S.2.2)) (([.ref 0, .int v1, .int v2] : List Value).map (gcv B ex)).toArray s 1 6 (fun q => B ≤ q)) (gro_91).2.2.1 D B ex H0 S.1 S.2.1 19 [some (.ref 0), some (.int v1), some (.int v2), none] [] S := by
    intro ls H locs cells slots hL hR hl hc hs
    obtain ⟨hx, hb, hml, hown, hts, hnm, hKN⟩ := X
    have e1 : cells = 0 := by omega
    have e2 : slots = 0 := by omega
    subst e1; subst e2
    obtain ⟨hB, adV, -, -, -, j4, j5⟩ := hRH.2.2.1
    have hq : ∀ a : Nat, a < H0.size → ¬ B ≤ a → s.heap[a]? = H0[a]? := fun a _ h => hRH.2.2.2.1 a (by omega)
    refine vx_throwE (own := RX9) (cls := nse) (F := lkF) (up := lkN) (ik := 219) (is := 221) (ic := 223) (text := gtxt3) (sa := ex 2000000003) (A := fun q => B ≤ q) hx hb hst d_ns_0 d_ns_1 d_ns_2 d_ns_5 hown (by decide +kernel) (by decide +kernel) (hts _ t_760) (hts _ t_22) hKN.2.2.2.2.2 (fun w hw => ?_) lk_ot (j4.kept hq) (j5.kept hq) ⟨by rw [hRH.1, hR.1]; exact Nat.le_refl _, fun q h9 h8 => ?_, hl⟩ (hL.1.trans hml.symm) d_look_19 d_look_22 d_look_23 d_look_25 d_look_28 (fun x hx => (htab x hx).elim) (by decide) (by show (0 : Nat) + (13 * 3 + 43) ≤ 320; decide) (Nat.le_refl 1) (Nat.le_refl 6) hlocks (fun t hal hz hq => ⟨rfl, gRH_grow _ (gRH_moved hal hR) hS hz hq⟩) hl (by decide) (by decide)
    · obtain ⟨h1, h2 | h2⟩ := lk_at w hw
      · exact hts w (List.mem_filter.mpr ⟨List.mem_append_right _ h1, h2⟩)
      · exact va_tabs (lk_ns w h2) rfl (hKN.2.1 w (List.mem_filter.mpr ⟨List.mem_append_right _ h1, h2⟩))
    · rw [hR.2.2.2.1 q (by omega), hRH.2.2.2.1 q (by omega)]
  have hr1 : S.1 ≤ S.1 + (headSpec (gws gro_91) lkrm).room.cells := Nat.le_add_right _ _
  have hr2 : S.2.1 ≤ S.2.1 + (headSpec (gws gro_91) lkrm).room.slots := Nat.le_add_right _ _
  have hgo : gG p l e (headSpec (gws gro_91) lkrm).room s m (([.ref 0, .int v1, .int v2] : List Value).map (gcv B ex)).toArray below meth c (vx_MQ below (fun _ _ _ _ => False) (lkXC D B ex H0 (S.1 + 1, S.2.1 + 6, S.2.2)) (([.ref 0, .int v1, .int v2] : List Value).map (gcv B ex)).toArray s 1 6 (fun q => B ≤ q)) (gro_91).2.2.1 D B ex H0 S.1 S.2.1 0 [some (.ref 0), some (.int v1), some (.int v2), none] [] S := by
    refine gg_step hok X rfl rfl hr1 hr2 ?_
    refine gg_step hok X rfl rfl hr1 hr2 ?_
    have hget : gget 9 1 2 [some (.ref 0), some (.int v1), some (.int v2), none] [.ref 0, .int v1] S = some (5, [some (.ref 0), some (.int v1), some (.int v2), none], [.int (nI N), .int v1], S) := by
      unfold gget
      simp only [h0, h1]
      rfl
    refine gg_step hok X rfl hget hr1 hr2 ?_
    refine gg_within hok X rfl (by omega) (by decide) (by decide) (by decide) hr1 hr2 (fun hg => ?_) (fun _ => ?_)
    · refine gg_step hok X rfl rfl hr1 hr2 ?_
      refine gg_step hok X rfl rfl hr1 hr2 ?_
      refine gg_step hok X rfl rfl hr1 hr2 ?_
      refine gg_within (M := 5) hok X rfl (by decide) (by decide) (by decide) (by decide) hr1 hr2 (fun hg2 => absurd ⟨hg, hg2⟩ hno) (fun _ => ?_)
      refine gg_step hok X rfl rfl hr1 hr2 ?_
      exact hthr
    · refine gg_step hok X rfl rfl hr1 hr2 ?_
      exact hthr
  exact hgo _ s.heap [] 0 0 (g_entry (as := [.ref 0, .int v1, .int v2]) (Nat.le_of_ble_eq_true rfl)) hRH (fun q h => by cases h) (Nat.add_zero _) (Nat.add_zero _)
end GLK
