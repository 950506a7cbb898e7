/-! ===== calls ===== -/
def gchkJ (MT : List gR) (own : String) (kd idx len : Nat) (ax : List Nat) : Bool := match ax with
  | [j, na, ne, ps, p1, p2] => len == 3 && (match MT[j]? with
    | none => false
    | some cr => (bif Nat.beq ne 0 then gtb ps (.methodLink own idx cr.1) else gtb ps (.methodLinkNest own idx cr.1 RX9)) && (decide ((parseMethodDescriptor cr.1.desc).map (fun d => d.parameters.length) = some (na - (if kd = 0 then 0 else 1))) && (decide ((kd = 0 ∨ 1 ≤ na) ∧ cr.1.name ≠ "law") &&
      (match kd with
        | 0 => gtb p1 (.static cr.1)
        | 1 => gtb p1 (.instanceMethod cr.1) && decide (lw_tbl[p2]? = some (.selects cr.1.cls cr.1 cr.1))
        | _ => gtb p1 (.instanceMethod cr.1) && decide (cr.1.name = "<init>" ∧ cr.2.2.2.1 = none)))))
  | _ => false
def gchkB (own : String) (kd idx len : Nat) (ax : List Nat) : Bool := match ax with
  | [j, na, ne, ps, _, _] => len == 3 && (decide ((j, kd, na, ne) ∈ [(1000, 2, 1, 0), (1001, 1, 2, 0), (1002, 1, 2, 0), (1003, 0, 4, 0), (1004, 0, 2, 0), (1005, 0, 2, 0)]) && gtb ps (.methodLink own idx (match j with
    | 1000 => objectInit
    | 1001 => ⟨"java/lang/String", "charAt", "(I)C"⟩
    | 1002 => ⟨"java/lang/String", "indexOf", "(I)I"⟩
    | 1004 => ⟨"java/lang/Math", "max", "(II)I"⟩
    | 1005 => ⟨"java/lang/Math", "min", "(II)I"⟩
    | _ => ⟨"GiftShopsLaw", "look", "(LGiftShops;II[J)I"⟩)))
  | _ => false
def gchkA (MT : List gR) (own : String) (kd idx len : Nat) (ax : List Nat) : Bool := match ax with
  | [] => true
  | j :: r => bif Nat.ble 1000 j then gchkB own kd idx len (j :: r) else gchkJ MT own kd idx len (j :: r)
def gchkI (MT : List gR) (own : String) (q : Nat × gI) : Bool := match q with
  | (_, i, len, ax, _) => match i with
    | .invokevirtual idx => gchkA MT own 1 idx len ax
    | .invokespecial idx => gchkA MT own 2 idx len ax
    | .invokestatic idx => gchkA MT own 0 idx len ax
    | _ => true
def gMOK (MT : List gR) (row : gR) : Prop := (row.1.name ≠ "law" → Cond.code row.1 row.2.1 row.2.2.1 row.2.2.2.1 ∈ gGW) ∧ Cond.initialized row.1.cls ∈ gGW ∧ plainName row.1.cls = true ∧ (row.1.cls ≠ "java/lang/invoke/MethodHandle" ∧ row.1.cls ≠ "java/lang/invoke/VarHandle") ∧ (∀ q ∈ row.2.2.2.2, decode row.2.1 q.1 = .ok (q.2.1, q.2.2.1)) ∧ (∀ q ∈ row.2.2.2.2, gchk row.1.cls row.1.name q = true) ∧ (∀ q ∈ row.2.2.2.2, gchkI MT row.1.cls q = true) ∧ row.2.2.1 ≤ 20
theorem glook_mem : ∀ {code : List (Nat × gI)} {pc : Nat} {i : gI}, glook code pc = some i → (pc, i) ∈ code := by
  intro code
  induction code with
  | nil => intro pc i h; cases h
  | cons q r ih =>
    intro pc i h
    simp only [glook] at h
    cases hb : Nat.beq q.1 pc with
    | true =>
      rw [hb] at h
      simp only [cond_true] at h
      have e : q.1 = pc := Nat.eq_of_beq_eq_true hb
      subst e
      cases h
      exact List.mem_cons_self
    | false =>
      rw [hb] at h
      exact List.mem_cons_of_mem _ (ih h)
def gPc (D : va_G) (B : Nat) (ex : Nat → Nat) (H0 : Heap) (as : List Value) (S : gS) : Array Value → State → Prop := fun a U => a = (as.map (gcv B ex)).toArray ∧ gKN D ex U ∧ gRH D U B ex H0 S U.heap
def gQc (D : va_G) (B : Nat) (ex : Nat → Nat) (H0 : Heap) (v : Option Value) (S' : gS) : Array Value → State → Outcome → State → Prop := fun _ _ o t => o = .returned (v.map (gcv B ex)) ∧ gRH D t B ex H0 S' t.heap
def grm (d : Nat) (S S' : gS) : Room := { frames := d, cells := S'.1 - S.1, slots := S'.2.1 - S.2.1, locals := 40 * d }
def gws (row : gR) : List Cond := .code row.1 row.2.1 row.2.2.1 row.2.2.2.1 :: gGW
def gMet (l : Launch) (D : va_G) (B : Nat) (ex : Nat → Nat) (H0 : Heap) (d : Nat) (row : gR) (as : List Value) (S : gS) (v : Option Value) (S' : gS) : Prop := Met l row.1 (gws row) (grm d S S') (gPc D B ex H0 as S) (gQc D B ex H0 v S') (S'.1 - S.1) (S'.2.1 - S.2.1) (fun q => B ≤ q)
theorem gPc_blind {D : va_G} {B : Nat} {ex : Nat → Nat} {H0 : Heap} {as : List Value} {S : gS} : FrameBlind (gPc D B ex H0 as S) := by
  intro a U g mk h
  obtain ⟨h1, h2, h3⟩ := h
  exact ⟨h1, gKN_warm (s := U) (U := U.calling g mk a) (State.WarmedH.refl U) h2, gRH_moved (u := U) (U := U.calling g mk a) (Vm.Alike.refl U.vm) h3⟩
theorem gGW_good {w : Cond} (h : w ∈ gGW) : (w.onTables && w.keeps) = true ∨ ∃ ty, w = .arrayClass ty := good_of_word (List.mem_filter.mp h).2
theorem gws_good {row : gR} (h : Cond.code row.1 row.2.1 row.2.2.1 row.2.2.2.1 ∈ gGW) : GoodIn gGW (gws row) := by
  intro w hw
  rcases List.mem_cons.mp hw with rfl | hw
  · exact ⟨h, gGW_good h⟩
  · exact ⟨hw, gGW_good hw⟩
section GCL
variable {p : Program} {l : Launch} {e : Env} {R : Room} {s : State} {m : MethodId} {args : Array Value} {below : List Frame} {meth : Method} {c : Code} {Q : State → Prop}
variable {cc : ByteArray} {nL : Nat} {own nm : String} {D : va_G} {B : Nat} {ex : Nat → Nat} {H0 : Heap} {n0 u0 : Nat} {pc : Nat} {L : gL} {st r : List Value} {S : gS}
theorem g_callX {H : Heap} {locs : List Loc} {cells slots mc ms : Nat} {ls : Array Slot} {st0 rest : List Value} {free : Addr → Prop} {Qa : State → Outcome → State → Prop} (hr : va_Run p l e R s m args below meth c H locs cells slots mc ms (F0 m pc ls st0) rest Qa free)
    (kk : ∀ (v : Option Value) (st₀ t : State) (L : List Loc), st₀.heap = H → s.vm.Alike t.vm → (∀ q ∈ L, free q.base) → Qa st₀ (.returned v) t → W p l e R s m args below meth c t.heap (locs ++ L) (cells + mc) (slots + ms) Q (F0 m (pc + 3) ls (v.toList ++ rest))) : W p l e R s m args below meth c H locs cells slots Q (F0 m pc ls st0) := by
  intro T hT X
  rcases hr T hT X with ⟨v, b0, t, T1, L1, hb0, X1, hL1, hh, hv, hq, go⟩
  have hal : s.vm.Alike t.vm := hv ▸ X1.warmed.alike
  exact (kk v b0 t L1 hb0 hal hL1 hq T1 hh X1).imp fun u hu => ⟨go u hu.1, hu.2⟩
theorem gcat_cv (st : List Value) : ((st.map (gcv B ex)).map (fun v => v.category)).sum = gcat st := by
  rw [List.map_map]
  have : (fun v => Value.category v) ∘ gcv B ex = fun v => v.category := by funext v; exact gcv_cat B ex v
  rw [this]; rfl
theorem g_mapval (v : Option Value) : (v.map (gcv B ex)).toList = v.toList.map (gcv B ex) := by cases v <;> rfl
/-- a call of an own method, by its contract -/
theorem gs_call {MT : List gR} {i : Instr} {kd idx j na d : Nat} {ax : List Nat} {cr : gR} {v1 : Option Value} {S1 : gS} (X : gCx p s m args meth c cc nL own nm D ex) (hi : (kd = 1 ∧ i = .invokevirtual idx) ∨ (kd = 2 ∧ i = .invokespecial idx) ∨ (kd = 0 ∧ i = .invokestatic idx)) (hd : decode cc pc = .ok (i, 3)) (hj : MT[j]? = some cr) (hck : gchkJ MT own kd idx 3 (j :: na :: ax) = true) (hok : gMOK MT cr)
    (hna : na ≤ st.length) (hcat : gcat (st.drop na) ≤ 8) (hkind : gkind i S cr.1.cls (st.take na).reverse) (hM : gMet l D B ex H0 d cr (st.take na).reverse S v1 S1) (hm1 : S.1 ≤ S1.1) (hm2 : S.2.1 ≤ S1.2.1) (hdr : d + 1 ≤ R.frames) (hdl : 40 * (d + 1) ≤ R.locals) (hr1 : S1.1 ≤ n0 + R.cells) (hr2 : S1.2.1 ≤ u0 + R.slots)
    (k : gG p l e R s m args below meth c Q nL D B ex H0 n0 u0 (pc + 3) L (v1.toList ++ st.drop na) S1) : gG p l e R s m args below meth c Q nL D B ex H0 n0 u0 pc L st S := by
  intro ls H locs cells slots hL hR hl hc hs
  obtain ⟨hx, hb, hml, hown, hts, hnm, hKN⟩ := X
  obtain ⟨hcode0, hini, hpl, hMH, -, -, -, hmax⟩ := hok
  have hst : st.map (gcv B ex) = ((st.take na).reverse.map (gcv B ex)).reverse ++ (st.drop na).map (gcv B ex) := by
    rw [List.map_reverse, List.reverse_reverse, ← List.map_append, List.take_append_drop]
  have hroom : 2 * (F0 m pc ls (st.map (gcv B ex))).monitorRoom + (((st.drop na).map (gcv B ex)).map fun v => v.category).sum ≤ 8 := lv_room (by rw [gcat_cv]; exact hcat)
  have hlen9 : (st.take na).length = na := by rw [List.length_take]; omega
  have kk : ∀ (v : Option Value) (st₀ t : State) (L1 : List Loc), st₀.heap = H → s.vm.Alike t.vm → (∀ q ∈ L1, B ≤ q.base) → gQc D B ex H0 v1 S1 (((st.take na).reverse.map (gcv B ex)).toArray) st₀ (.returned v) t → W p l e R s m args below meth c t.heap (locs ++ L1) (cells + (S1.1 - S.1)) (slots + (S1.2.1 - S.2.1)) Q (F0 m (pc + 3) ls (v.toList ++ (st.drop na).map (gcv B ex))) := by
    intro v st₀ t L1 h0 hal hL1 hq
    obtain ⟨h1, h2⟩ := hq
    cases h1
    have k1 := k ls t.heap (locs ++ L1) (cells + (S1.1 - S.1)) (slots + (S1.2.1 - S.2.1)) hL (gRH_moved hal.symm h2) (fun q hq => (List.mem_append.mp hq).elim (hl q) (hL1 q)) (by omega) (by omega)
    rw [List.map_append] at k1
    rw [g_mapval]
    exact k1
  have hpre : ∀ U : State, U.heap = H → s.WarmedH U.vm → gPc D B ex H0 (st.take na).reverse S ((st.take na).reverse.map (gcv B ex)).toArray U := fun U hU hW => ⟨rfl, gKN_warm hW hKN, by rw [hU]; exact gRH_moved hW.alike hR⟩
  unfold gchkJ at hck
  split at hck
  case h_2 => cases hck
  rename_i j2 na2 ne ps p1 p2 heq
  cases heq
  rw [hj] at hck
  simp only [Bool.and_eq_true, decide_eq_true_eq, beq_self_eq_true, true_and] at hck
  obtain ⟨hlk, hpar, hk1, hkd⟩ := hck
  have hcode := hcode0 hk1.2
  have hRR : (grm d S S1).frames + 1 ≤ R.frames ∧ 8 + (cr.2.2.1 + 11) + (grm d S S1).locals ≤ R.locals := ⟨hdr, by show 8 + (cr.2.2.1 + 11) + 40 * d ≤ R.locals; omega⟩
  have hF : CallFix p m c cc nL s args gGW own := ⟨hx, hb, hml, hown, hts⟩
  have hf2 : cells + (S1.1 - S.1) ≤ R.cells ∧ slots + (S1.2.1 - S.2.1) ≤ R.slots := ⟨by omega, by omega⟩
  rw [hst]
  rcases hi with ⟨rfl, rfl⟩ | ⟨rfl, rfl⟩ | ⟨rfl, rfl⟩
  · -- invokevirtual
    simp only [Nat.one_ne_zero, if_false] at hpar
    simp only [Bool.and_eq_true, decide_eq_true_eq] at hkd
    obtain ⟨hin, hsel⟩ := hkd
    have hselw : Cond.selects cr.1.cls cr.1 cr.1 ∈ gGW := List.mem_filter.mpr ⟨List.mem_of_getElem? hsel, rfl⟩
    have hin2 := hts _ (gtb_good hin rfl)
    have hsel2 := hts _ hselw
    simp only [gkind] at hkind
    cases has : (st.take na).reverse with
    | nil => rw [has] at hkind; exact hkind.elim
    | cons a0 as =>
      rw [has] at hkind hM kk hpre
      cases a0 with
      | ref a =>
        simp only [grcv] at hkind
        have hlen2 : as.length = na - 1 := by
          have := congrArg List.length has
          rw [List.length_reverse, hlen9] at this
          simp at this
          omega
        cases hcell : S.2.2 a with
        | inl x => rw [hcell] at hkind; exact hkind.elim
        | inr x =>
          obtain ⟨ci, fs⟩ := x
          rw [hcell] at hkind
          simp only at hkind
          cases hq : gcl[ci]? with
          | none => rw [hq] at hkind; cases hkind
          | some q =>
            rw [hq] at hkind
            have hqC : q.1 = cr.1.cls := Option.some.inj hkind
            have hne : S.2.2 a ≠ gz := by
              rw [hcell]
              intro h
              simp only [gz, Sum.inr.injEq, Prod.mk.injEq] at h
              rw [h.1] at hq
              simp [gcl] at hq
            have h9 : a < 1000000000 := by
              rcases Nat.lt_or_ge a 1000000000 with h | h
              · exact h
              · have := hR.2.2.2.2.2 a h hne
                rw [hcell] at this
                exact this.elim
            have hat := hR.2.2.2.2.1 a h9 hne
            rw [hcell] at hat
            obtain ⟨-, r', hr', -, cellB, g1, g2, g3, -⟩ := hat
            have hrecv : ∃ cellB : Cell, H[B + a]? = some cellB ∧ cellB.vm.isStatics = false ∧ s.vm.findClass cr.1.cls = some cellB.cls := ⟨cellB, g1, by rw [g3]; rfl, by rw [g2, ← hqC]; exact (hKN.1.1 ci q hq).2.1⟩
            have e1 : gcv B ex (.ref a) = .ref (B + a) := by simp [gcv, g_gal h9]
            simp only [List.map_cons, e1] at kk hpre ⊢
            rw [List.reverse_cons, List.append_assoc]
            cases hn : Nat.beq ne 0 with
            | true =>
              rw [hn] at hlk
              simp only [cond_true] at hlk
              refine g_callX (va_runV (As := as.map (gcv B ex)) (rest := (st.drop na).map (gcv B ex)) (b := B + a) (C := cr.1.cls) hF hM ⟨callB_of (na - 1) hts (gws_good hcode) rfl rfl rfl (hts _ hini) (hts _ (gtb_good hlk rfl)) ⟨hMH.1, hMH.2, hpar⟩ hRR, hin2, hsel2⟩ ⟨gPc_blind, hrecv, hpre⟩ rfl (by rw [List.length_map]; exact hlen2) hL.1 rfl hroom hd hf2) kk
            | false =>
              rw [hn] at hlk
              simp only [cond_false] at hlk
              refine g_callX (va_runVN (As := as.map (gcv B ex)) (rest := (st.drop na).map (gcv B ex)) (b := B + a) (C := cr.1.cls) hF hM ⟨va_cnB (na - 1) hts (gws_good hcode) rfl rfl rfl (hKN.2.1 _ (gtb_nest hlk rfl)) (hts _ hini) ⟨hMH.1, hMH.2, hpar⟩ hRR, hin2, hsel2⟩ ⟨gPc_blind, hrecv, hpre⟩ rfl (by rw [List.length_map]; exact hlen2) hL.1 rfl hroom hd hf2) kk
      | int x => exact hkind.elim
      | long x => exact hkind.elim
      | float x => exact hkind.elim
      | double x => exact hkind.elim
      | null => exact hkind.elim
      | retAddr x => exact hkind.elim
  · -- invokespecial <init>
    simp only [Nat.succ_ne_zero, if_false] at hpar
    simp only [Bool.and_eq_true, decide_eq_true_eq] at hkd
    obtain ⟨hin, hinit, hret⟩ := hkd
    have hin2 := hts _ (gtb_good hin rfl)
    simp only [gkind] at hkind
    obtain ⟨a, as, has⟩ := hkind
    rw [has] at hM kk hpre ⊢
    have hlen2 : as.length = na - 1 := by
      have := congrArg List.length has
      rw [List.length_reverse, hlen9] at this
      simp at this
      omega
    have hws : gws cr = Cond.code cr.1 cr.2.1 cr.2.2.1 none :: gGW := by rw [gws, hret]
    have e1 : gcv B ex (.ref a) = .ref (gal B ex a) := rfl
    simp only [List.map_cons, e1] at kk hpre ⊢
    rw [List.reverse_cons, List.append_assoc]
    cases hn : Nat.beq ne 0 with
    | true =>
      rw [hn] at hlk
      simp only [cond_true] at hlk
      refine g_callX (va_runI (As := as.map (gcv B ex)) (rest := (st.drop na).map (gcv B ex)) (b := gal B ex a) hF hM ⟨callB_of (na - 1) hts (gws_good hcode) hws rfl rfl (hts _ hini) (hts _ (gtb_good hlk rfl)) ⟨hMH.1, hMH.2, hpar⟩ hRR, hinit, hin2⟩ ⟨gPc_blind, hpre⟩ rfl (by rw [List.length_map]; exact hlen2) hL.1 rfl hroom hd hf2) kk
    | false =>
      rw [hn] at hlk
      simp only [cond_false] at hlk
      refine g_callX (va_runIN (As := as.map (gcv B ex)) (rest := (st.drop na).map (gcv B ex)) (b := gal B ex a) hF hM ⟨va_cnB (na - 1) hts (gws_good hcode) hws rfl rfl (hKN.2.1 _ (gtb_nest hlk rfl)) (hts _ hini) ⟨hMH.1, hMH.2, hpar⟩ hRR, hinit, hin2⟩ ⟨gPc_blind, hpre⟩ rfl (by rw [List.length_map]; exact hlen2) hL.1 rfl hroom hd hf2) kk
  · -- invokestatic
    simp only [if_true, Nat.sub_zero] at hpar
    have hstt := hts _ (gtb_good hkd rfl)
    have hlen2 : ((st.take na).reverse.map (gcv B ex)).length = na := by rw [List.length_map, List.length_reverse]; exact hlen9
    cases hn : Nat.beq ne 0 with
    | true =>
      rw [hn] at hlk
      simp only [cond_true] at hlk
      refine g_callX (va_runS (As := (st.take na).reverse.map (gcv B ex)) (rest := (st.drop na).map (gcv B ex)) hF hM ⟨callB_of na hts (gws_good hcode) rfl rfl rfl (hts _ hini) (hts _ (gtb_good hlk rfl)) ⟨hMH.1, hMH.2, hpar⟩ hRR, hstt⟩ ⟨gPc_blind, hpre⟩ rfl hlen2 hL.1 rfl hroom hd hf2) kk
    | false =>
      rw [hn] at hlk
      simp only [cond_false] at hlk
      refine g_callX (va_runSN (As := (st.take na).reverse.map (gcv B ex)) (rest := (st.drop na).map (gcv B ex)) hF hM ⟨va_cnB na hts (gws_good hcode) rfl rfl rfl (hKN.2.1 _ (gtb_nest hlk rfl)) (hts _ hini) ⟨hMH.1, hMH.2, hpar⟩ hRR, hstt, trivial⟩ ⟨gPc_blind, hpre⟩ rfl hlen2 hL.1 rfl hroom hd hf2) kk
end GCL
