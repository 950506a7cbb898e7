section GMN
variable {l : Launch} {D : va_G} {B : Nat} {ex : Nat → Nat} {H0 : Heap} {MT : List gR} {BI : gB}
/-- what a run from a frame gives, for every method of the table -/
def gRuns (l : Launch) (D : va_G) (B : Nat) (ex : Nat → Nat) (H0 : Heap) (MT : List gR) (d k pc : Nat) (L : gL) (st : List Value) (S : gS) (v : Option Value) (S' : gS) : Prop :=
  ∀ (row : gR), MT[k]? = some row → ∀ (p : Program) (e : Env) (R : Room) (s : State) (m : MethodId) (args : Array Value) (below : List Frame) (meth : Method) (c : Code) (Q : State → Prop) (n0 u0 : Nat),
    gCx p s m args meth c row.2.1 row.2.2.1 row.1.cls row.1.name D ex → d ≤ R.frames → 40 * d ≤ R.locals → S'.1 ≤ n0 + R.cells → S'.2.1 ≤ u0 + R.slots → gK p l e R s m args below meth c Q D B ex H0 n0 u0 row v S' →
    gG p l e R s m args below meth c Q row.2.2.1 D B ex H0 n0 u0 pc L st S
theorem gmet_of {d k : Nat} {cr : gR} {as : List Value} {S S1 : gS} {v1 : Option Value} (hok : gMOK MT cr) (hk : MT[k]? = some cr) (hm1 : S.1 ≤ S1.1) (hm2 : S.2.1 ≤ S1.2.1) (hlen : (gent as).length ≤ cr.2.2.1) (h : gRuns l D B ex H0 MT d k 0 (gpad (gent as) cr.2.2.1) [] S v1 S1) : gMet l D B ex H0 d cr as S v1 S1 := by
  obtain ⟨hcode, hini, hpl, hMH, hdec, hchk, hchi, hmax⟩ := hok
  refine Met.ofW (cc := cr.2.1) (maxL := cr.2.2.1) (ret := cr.2.2.2.1) hpl rfl ?_
  intro p e s m args below meth c s₁ Bd hml hv
  obtain ⟨rfl, hKN, hRH⟩ := hv
  have hx := Bd.exec
  have hb := Bd.bytes
  have hr := Bd.returns
  have hts0 := atoms_spec (ws := gws cr) Bd.pre
  have hts : ∀ w ∈ gGW, w.before _ s = true := fun w hw => hts0 w (List.mem_cons_of_mem _ hw)
  have hown : s.vm.findClass cr.1.cls = some m.cls := findClass_of_methodNamed Bd.named
  have hlocks := Bd.notSynchronized
  have hnm : meth.name = cr.1.name := (name_of_methodNamed Bd.named Bd.method).1
  rw [lg_entry_eq]
  refine h cr hk p e (headSpec (gws cr) (grm d S S1)).room s m _ below meth c (MQ below (gQc D B ex H0 v1 S1) _ s (S1.1 - S.1) (S1.2.1 - S.2.1) (fun q => B ≤ q)) S.1 S.2.1 ⟨hx, hb, hml, hown, hts, hnm, hKN⟩ (Nat.le_refl _) (Nat.le_refl _) (by show S1.1 ≤ S.1 + (S1.1 - S.1); omega) (by show S1.2.1 ≤ S.2.1 + (S1.2.1 - S.2.1); omega) ?_ _ s.heap [] 0 0 (g_entry hlen) hRH (fun q h => by cases h) (Nat.add_zero _) (Nat.add_zero _)
  intro pc ls H locs cells slots hret hR hl hc hs
  have e1 : cells = S1.1 - S.1 := by omega
  have e2 : slots = S1.2.1 - S.2.1 := by omega
  subst e1; subst e2
  rcases hret with ⟨rfl, hn, hd⟩ | ⟨x, rfl, hg, hd⟩
  · exact W.vret hx hb (hr.trans hn) (fun t ht hW => ⟨rfl, by rw [ht]; exact gRH_moved hW.alike hR⟩) hl hd
  · cases hrt : cr.2.2.2.1 with
    | none => rw [hrt] at hg; exact hg.elim
    | some ty =>
      rw [hrt] at hg hr
      cases ty with
      | int => exact W.iret hx hb hr (fun t ht hW => ⟨rfl, by rw [ht]; exact gRH_moved hW.alike hR⟩) hl hd
      | boolean =>
        refine W.zret hx hb hr ?_ (fun t ht hW => ⟨rfl, by rw [ht]; exact gRH_moved hW.alike hR⟩) hl hd
        rcases hg with rfl | rfl <;> decide
      | char =>
        refine W.zret hx hb hr ?_ (fun t ht hW => ⟨rfl, by rw [ht]; exact gRH_moved hW.alike hR⟩) hl hd
        have hg' : vp_nar .char x = x := hg
        rw [vp_nar_char] at hg'
        exact congrArg Value.int hg'
      | byte => exact hg.elim
      | short => exact hg.elim
      | long => exact hg.elim
      | float => exact hg.elim
      | double => exact hg.elim
      | object n => exact hg.elim
      | array n => exact hg.elim
theorem gcls_call {i : Instr} (h : gcls i = 3) : ∃ kd idx, (kd = 1 ∧ i = .invokevirtual idx) ∨ (kd = 2 ∧ i = .invokespecial idx) ∨ (kd = 0 ∧ i = .invokestatic idx) := by
  cases i <;> first | exact ⟨1, _, Or.inl ⟨rfl, rfl⟩⟩ | exact ⟨2, _, Or.inr (Or.inl ⟨rfl, rfl⟩)⟩ | exact ⟨0, _, Or.inr (Or.inr ⟨rfl, rfl⟩)⟩ | (cases h; done)
theorem gcls_ret1 {i : Instr} (h : gcls i = 1) : i = .return_ := by
  cases i <;> first | rfl | (cases h; done)
theorem gcls_ret2 {i : Instr} (h : gcls i = 2) : i = .ireturn := by
  cases i <;> first | rfl | (cases h; done)
theorem gchkI_call {MT : List gR} {own : String} {pc : Nat} {i : Instr} {len : Nat} {ax : List Nat} {w : Value} {kd idx : Nat} (hi : (kd = 1 ∧ i = .invokevirtual idx) ∨ (kd = 2 ∧ i = .invokespecial idx) ∨ (kd = 0 ∧ i = .invokestatic idx)) (h : gchkI MT own (pc, i, len, ax, w) = true) : gchkA MT own kd idx len ax = true := by
  rcases hi with ⟨rfl, rfl⟩ | ⟨rfl, rfl⟩ | ⟨rfl, rfl⟩ <;> exact h
theorem gsim (hMT : ∀ row ∈ MT, gMOK MT row) (hB : gBmono BI) (hWB : gWB l D B ex H0 BI) : ∀ (f d k pc : Nat) (L : gL) (st : List Value) (S : gS) (v : Option Value) (S' : gS), gER MT BI f d k pc L st S v S' → gRuns l D B ex H0 MT d k pc L st S v S' := by
  intro f
  induction f with
  | zero => intro d k pc L st S v S' h; exact h.elim
  | succ f ih =>
    intro d k pc L st S v S' h row hrow p e R s m args below meth c Q n0 u0 X hd1 hd2 hr1 hr2 hK
    have hm := gER_mono hB _ _ _ _ _ _ _ _ _ h
    have hok := hMT row (List.mem_of_getElem? hrow)
    have hok0 := hok
    obtain ⟨hcode, hini, hpl, hMH, hdec, hchk, hchi, hmax⟩ := hok
    unfold gER at h
    rw [hrow] at h
    dsimp only at h
    split at h
    · exact h.elim
    · rename_i q hl
      obtain ⟨i, len, ax, w⟩ := q
      dsimp only at h
      have hmem := glook_mem hl
      have hdc := hdec _ hmem
      have hck := hchk _ hmem
      have hci := hchi _ hmem
      dsimp only at hdc hck hci
      split at h
      · rename_i hcl
        have e1 := gcls_ret1 hcl
        subst e1
        have h1 := g_len hck
        subst h1
        obtain ⟨rfl, rfl, rfl, hn⟩ := h
        intro ls H locs cells slots hL hR hl2 hc hs
        exact hK pc ls H locs cells slots (Or.inl ⟨rfl, hn, hdc⟩) hR hl2 hc hs
      · rename_i hcl
        have e1 := gcls_ret2 hcl
        subst e1
        have h1 := g_len hck
        subst h1
        obtain ⟨x, rfl, rfl, rfl, hg⟩ := h
        intro ls H locs cells slots hL hR hl2 hc hs
        exact hK pc ls H locs cells slots (Or.inr ⟨x, rfl, hg, hdc⟩) hR hl2 hc hs
      · rename_i hcl
        obtain ⟨kd, idx, hi⟩ := gcls_call hcl
        have hca := gchkI_call hi hci
        unfold gcallP at h
        split at h
        · rename_i j na t
          obtain ⟨hna, hcat, v1, S1, hcall, hgo⟩ := h
          have hm1 := gER_mono hB _ _ _ _ _ _ _ _ _ hgo
          have hgo2 := ih d k (pc + 3) L _ S1 v S' hgo row hrow p e R s m args below meth c Q n0 u0 X hd1 hd2 hr1 hr2 hK
          split at hcall
          · rename_i hj
            have hjb : Nat.ble 1000 j = true := Nat.ble_eq.mpr hj
            simp only [gchkA, hjb, cond_true] at hca
            have hl3 : len = 3 := by
              unfold gchkB at hca
              split at hca
              · rw [Bool.and_eq_true] at hca
                exact g_len hca.1
              · cases hca
            subst hl3
            have hst : st = ((st.take na).reverse).reverse ++ st.drop na := by rw [List.reverse_reverse, List.take_append_drop]
            rw [hst]
            refine hWB p e R s m args below meth c Q row.2.1 row.2.2.1 row.1.cls row.1.name n0 u0 pc L (st.drop na) S i kd idx j na t (st.take na).reverse v1 S1 X hi hdc hca ?_ hcat (by omega) (by omega) hcall.2 (by omega) (by omega) hgo2
            rw [List.length_reverse, List.length_take]; omega
          · rename_i hj
            have hjb : Nat.ble 1000 j = false := by
              cases hq : Nat.ble 1000 j with
              | false => rfl
              | true => exact absurd (Nat.ble_eq.mp hq) hj
            simp only [gchkA, hjb, cond_false] at hca
            have hl3 : len = 3 := by
              unfold gchkJ at hca
              split at hca
              · rw [Bool.and_eq_true] at hca
                exact g_len hca.1
              · cases hca
            subst hl3
            obtain ⟨hd0, cr, hcr, hlen, hkind, hce⟩ := hcall
            have hm0 := gER_mono hB _ _ _ _ _ _ _ _ _ hce
            have hokc := hMT cr (List.mem_of_getElem? hcr)
            have hM := gmet_of (l := l) (D := D) (B := B) (ex := ex) (H0 := H0) (as := (st.take na).reverse) hokc hcr hm0.1 hm0.2 hlen (ih (d - 1) j 0 _ [] S v1 S1 hce)
            exact gs_call (d := d - 1) X hi hdc hcr hca hokc hna hcat hkind hM hm0.1 hm0.2 (by omega) (by omega) (by omega) (by omega) hgo2
        · exact h.elim
      · split at h
        · exact h.elim
        · rename_i o hs
          have hm1 := gER_mono hB _ _ _ _ _ _ _ _ _ h
          exact gstep_sim X hs hdc hck (by omega) (by omega) (ih d k o.1 o.2.1 o.2.2.1 o.2.2.2 v S' h row hrow p e R s m args below meth c Q n0 u0 X hd1 hd2 hr1 hr2 hK)
end GMN
