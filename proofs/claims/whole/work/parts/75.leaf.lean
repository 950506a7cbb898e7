/-! ===== calls out of the small machine's table: the JDK's leaves ===== -/
section GW0
variable {l : Launch} {D : va_G} {B : Nat} {ex : Nat → Nat} {H0 : Heap}
theorem g_sJ {s : State} {S : gS} {H : Heap} (hR : gRH D s B ex H0 S H) : ∃ adV : Nat → Nat, (∀ U : State, U.heap = H → s.WarmedH U.vm → sJ B ex adV U) ∧ ∀ i, i < 2 → ∃ cell : Cell, H[ex (2000000001 + i)]? = some cell ∧ cell.vm.isStatics = false ∧ s.vm.findClass "java/lang/String" = some cell.cls := by
  obtain ⟨hB, adV, j1, j2, j3, -, -⟩ := hR.2.2.1
  have hq : ∀ a : Nat, a < H0.size → ¬ B ≤ a → H[a]? = H0[a]? := fun a _ h => hR.2.2.2.1 a (by omega)
  refine ⟨adV, fun U hU hW => ?_, fun i hi => ?_⟩
  · unfold sJ
    rw [hU]
    exact ⟨va_Z.moved hW.alike (j1.kept hq), va_Zq.moved hW.alike (j2.kept hq), vk_S.moved hW.alike (j3.kept hq)⟩
  · obtain ⟨cell, h1, h2, h3, -⟩ := ((j3.kept hq).1 i hi).1
    exact ⟨cell, h1, h2, h3⟩
section GW1
variable {p : Program} {e : Env} {R : Room} {s : State} {m : MethodId} {args : Array Value} {below : List Frame} {meth : Method} {c : Code} {Q : State → Prop} {cc : ByteArray} {nL : Nat} {own nm : String} {n0 u0 pc : Nat} {L : gL} {rest : List Value} {S : gS} {idx : Nat}
theorem g_str {y : MethodName} {cc' : ByteArray} {nL' i : Nat} {ret' : Option FieldType} {x z : Int32} (X : gCx p s m args meth c cc nL own nm D ex) (hi : i < 2) (hM : ∀ adV, sMet l B ex adV 3 y cc' nL' ret' [.ref (ex (2000000001 + i)), .int x] (some (.int z))) (hcode : Cond.code y cc' nL' ret' ∈ gGW) (hini : Cond.initialized y.cls ∈ gGW) (hlk : Cond.methodLink own idx y ∈ gGW) (hin : Cond.instanceMethod y ∈ gGW) (hse : Cond.selects "java/lang/String" y y ∈ gGW)
    (hy : y.cls ≠ "java/lang/invoke/MethodHandle" ∧ y.cls ≠ "java/lang/invoke/VarHandle" ∧ (parseMethodDescriptor y.desc).map (fun d => d.parameters.length) = some 1) (hnL : nL' ≤ 10) (hf : 10 ≤ R.frames) (hlc : 400 ≤ R.locals) (hcat : gcat rest ≤ 8) (hr1 : S.1 ≤ n0 + R.cells) (hr2 : S.2.1 ≤ u0 + R.slots) (hd : decode cc pc = .ok (.invokevirtual idx, 3))
    (k : gG p l e R s m args below meth c Q nL D B ex H0 n0 u0 (pc + 3) L (.int z :: rest) S) : ∀ (ls : Array Slot) (H : Heap) (locs : List Loc) (cells slots : Nat), gLR B ex ls nL L → gRH D s B ex H0 S H → (∀ q ∈ locs, B ≤ q.base) → n0 + cells = S.1 → u0 + slots = S.2.1 → W p l e R s m args below meth c H locs cells slots Q (F0 m pc ls (.int x :: .ref (ex (2000000001 + i)) :: rest.map (gcv B ex))) := by
  intro ls H locs cells slots hL hR hlo hc hs
  obtain ⟨hx, hb, hml, hown, hts, hnm, hKN⟩ := X
  obtain ⟨adV, hJ, hrc⟩ := g_sJ hR
  have hF : CallFix p m c cc nL s args gGW own := ⟨hx, hb, hml, hown, hts⟩
  refine g_callX (va_runV (As := [.int x]) (rest := rest.map (gcv B ex)) (b := ex (2000000001 + i)) (C := "java/lang/String") hF (hM adV) ⟨callB_of 1 hts (sws_good hcode) rfl rfl rfl (hts _ hini) (hts _ hlk) hy ⟨by show 3 + 1 ≤ R.frames; omega, by show 8 + (nL' + 11) + 40 * 3 ≤ R.locals; omega⟩, hts _ hin, hts _ hse⟩ ⟨sPc_blind, hrc i hi, fun U hU hW => ⟨rfl, hJ U hU hW⟩⟩ rfl rfl hL.1 rfl (lv_room (by rw [gcat_cv]; exact hcat)) hd ⟨by omega, by omega⟩) ?_
  intro w st₀ t L1 hh0 hal hL1 hq
  obtain ⟨h1, h2⟩ := hq
  cases h1
  rw [h2, hh0]
  exact k ls H (locs ++ L1) (cells + 0) (slots + 0) hL hR (fun q hq => (List.mem_append.mp hq).elim (hlo q) (hL1 q)) hc hs
end GW1
theorem gWB0 : gWB l D B ex H0 gBI0 := by
  intro p e R s m args below meth c Q cc nL own nm n0 u0 pc L rest S i kd idx j na ax as v1 S1 X hi hd hck has hcat hf hl hBI hr1 hr2 k ls H locs cells slots hL hR hlo hc hs
  obtain ⟨rfl, h⟩ := hBI
  unfold gchkB at hck
  split at hck
  case h_2 => cases hck
  rename_i j2 na2 ne ps p1 p2 heq
  cases heq
  simp only [Bool.and_eq_true, decide_eq_true_eq, beq_self_eq_true, true_and] at hck
  obtain ⟨hin, hlk⟩ := hck
  have X0 := X
  obtain ⟨hx, hb, hml, hown, hts, hnm, hKN⟩ := X
  have hroom : ((rest.map (gcv B ex)).map fun v => v.category).sum ≤ 8 := by rw [gcat_cv]; exact hcat
  rcases h with ⟨rfl, ⟨a, rfl⟩, rfl⟩ | ⟨rfl, n, hn, rfl, rfl⟩ | ⟨rfl, n, hn, rfl, rfl⟩ | ⟨rfl, x, y, rfl, rfl⟩ | ⟨rfl, x, y, rfl, rfl⟩
  · have hk2 : kd = 2 := by simp at hin; exact hin.1
    subst hk2
    rcases hi with ⟨h0, -⟩ | ⟨-, rfl⟩ | ⟨h0, -⟩
    · cases h0
    · have hlk2 := hts _ (gtb_good (w := Cond.methodLink own idx Lib.objectInit) hlk rfl)
      exact W.objInit hx hb hown hlk2 (hts _ t_29) (hts _ t_30) (g := F0 m pc ls (.ref (gal B ex a) :: rest.map (gcv B ex))) rfl (hL.1.trans hml.symm) rfl hd (by omega) (by show 2 * 0 + _ + 12 ≤ R.locals; omega) (k ls H locs cells slots hL hR hlo hc hs)
    · cases h0
  · have hk2 : kd = 1 := by simp at hin; exact hin.1
    subst hk2
    rcases hi with ⟨-, rfl⟩ | ⟨h0, -⟩ | ⟨h0, -⟩
    · have hlk2 := gtb_good (w := Cond.methodLink own idx y_charAt) hlk rfl
      exact g_str (i := 0) X0 (by omega) (fun adV => s_charAt hn) t_342 t_11 hlk2 t_340 t_341 ⟨by decide, by decide, by decide +kernel⟩ (by decide) hf hl hcat hr1 hr2 hd k ls H locs cells slots hL hR hlo hc hs
    · cases h0
    · cases h0
  · have hk2 : kd = 1 := by simp at hin; exact hin.1
    subst hk2
    rcases hi with ⟨-, rfl⟩ | ⟨h0, -⟩ | ⟨h0, -⟩
    · have hlk2 := gtb_good (w := Cond.methodLink own idx y_indexOf) hlk rfl
      exact g_str (i := 1) X0 (by omega) (fun adV => s_indexOf hn) t_387 t_11 hlk2 t_385 t_386 ⟨by decide, by decide, by decide +kernel⟩ (by decide) hf hl hcat hr1 hr2 hd k ls H locs cells slots hL hR hlo hc hs
    · cases h0
    · cases h0
  · have hk2 : kd = 0 := by simp at hin; exact hin.1
    subst hk2
    rcases hi with ⟨h0, -⟩ | ⟨h0, -⟩ | ⟨-, rfl⟩
    · cases h0
    · cases h0
    · have hlk2 := hts _ (gtb_good (w := Cond.methodLink own idx y_max) hlk rfl)
      exact va_mmax (rest := rest.map (gcv B ex)) hx hb (hml.trans hL.1.symm) hown hlk2 (hts _ t_407) (hts _ t_15) (hts _ t_408) (by omega) (by omega) (by omega) (by omega) hd (k ls H locs cells slots hL hR hlo hc hs)
  · have hk2 : kd = 0 := by simp at hin; exact hin.1
    subst hk2
    rcases hi with ⟨h0, -⟩ | ⟨h0, -⟩ | ⟨-, rfl⟩
    · cases h0
    · cases h0
    · have hlk2 := hts _ (gtb_good (w := Cond.methodLink own idx y_min) hlk rfl)
      exact va_mmin (rest := rest.map (gcv B ex)) hx hb (hml.trans hL.1.symm) hown hlk2 (hts _ t_410) (hts _ t_15) (hts _ t_411) (by omega) (by omega) (by omega) (by omega) hd (k ls H locs cells slots hL hR hlo hc hs)
end GW0
