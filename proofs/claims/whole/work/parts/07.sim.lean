section GSM
variable {p : Program} {l : Launch} {e : Env} {R : Room} {s : State} {m : MethodId} {args : Array Value} {below : List Frame} {meth : Method} {c : Code} {Q : State → Prop}
variable {cc : ByteArray} {nL : Nat} {own nm : String} {D : va_G} {B : Nat} {ex : Nat → Nat} {H0 : Heap} {n0 u0 : Nat} {pc : Nat} {L : gL} {st r : List Value} {S : gS}
theorem gw_field (a : String) (b : Nat) (x y z : String) : goodWord (.fieldLink a b x y z) = true := rfl
theorem gw_class (a : String) (b : Nat) (x : String) : goodWord (.classLink a b x) = true := rfl
theorem gw_const (a : String) (b : Nat) (x : Int32) : goodWord (.constant a b x) = true := rfl
theorem gw_constL (a : String) (b : Nat) (x : Int64) : goodWord (.constantLong a b x) = true := rfl
theorem gw_arr (t : FieldType) : goodWord (.arrayClass t) = true := rfl
/-! fields -/
theorem gs_get {idx ci sl ne ps a : Nat} {fs : List Value} {v : Value} (X : gCx p s m args meth c cc nL own nm D ex) (hd : decode cc pc = .ok (.getfield idx, 3)) (hck : gchkF own nm false idx 3 [ci, sl, ne, ps] = true) (ha : S.2.2 a = .inr (ci, fs)) (hv : fs[sl]? = some v)
    (k : gG p l e R s m args below meth c Q nL D B ex H0 n0 u0 (pc + 3) L (v :: r) S) : gG p l e R s m args below meth c Q nL D B ex H0 n0 u0 pc L (.ref a :: r) S := by
  intro ls H locs cells slots hL hR hl hc hs
  obtain ⟨hx, hb, hml, hown, hts, hnm, hKN⟩ := X
  have hne : fs ≠ [] := by
    intro h
    rw [h] at hv
    simp at hv
  obtain ⟨h9, hz, hlt, q, hq, hlen, hob⟩ := g_int hR ha hne
  simp only [gchkF, hq, Bool.and_eq_true, beq_self_eq_true, true_and, decide_eq_true_eq] at hck
  obtain ⟨hk, hdecl, hlk, -⟩ := hck
  have hk' : sl < q.2.2 := Nat.ble_eq.mp hk
  have hP : va_P D gcl [(B + a, .inr (ci, fs.map (gcv B ex)))] H := by
    intro k2 q2 h2
    cases k2 with
    | zero => cases h2; exact ⟨q, hq, hob⟩
    | succ n => simp at h2
  have hvv : (fs.map (gcv B ex))[sl]? = some (gcv B ex v) := by rw [List.getElem?_map, hv]; rfl
  have e1 : gcv B ex (.ref a) = .ref (B + a) := by simp [gcv, g_gal h9]
  have kk := k ls H locs cells slots hL hR hl hc hs
  simp only [List.map_cons, e1] at kk ⊢
  cases hn : Nat.beq ne 0 with
  | true =>
    rw [hn] at hlk
    simp only [cond_true] at hlk
    exact va_get (D := D) (ci := ci) (C := q.1) (T := q.2.1) (N := q.2.2) hx hb hts (gcl_in hq) hown hKN.1 hP 0 rfl hq sl hk' (hts _ (gtb_good hlk (gw_field _ _ _ _ _))) (fun x h => by rw [← hdecl]; exact h) hvv hd kk
  | false =>
    rw [hn] at hlk
    simp only [cond_false] at hlk
    exact va_getN (D := D) (ci := ci) (C := q.1) (T := q.2.1) (N := q.2.2) hx hb hts (gcl_in hq) hown hKN.1 hP 0 rfl hq sl hk' (va_Nw.use rfl (hKN.2.1 _ (gtb_nest hlk rfl))) (fun x h => by rw [← hdecl]; exact h) hvv hd kk
theorem gfit_ok {ty : FieldType} {v : Value} (h : gfit ty v = true) : narrow ty (gcv B ex v) = gcv B ex v ∧ fits ty (gcv B ex v) = true := by
  cases ty <;> cases v <;> first | exact ⟨rfl, rfl⟩ | (simp [gfit] at h; done) | skip
  rename_i x
  simp only [gfit, Bool.or_eq_true, beq_iff_eq] at h
  rcases h with rfl | rfl
  · exact ⟨(by show narrow .boolean (.int 0) = .int 0; decide), (by show fits .boolean (.int 0) = true; decide)⟩
  · exact ⟨(by show narrow .boolean (.int 1) = .int 1; decide), (by show fits .boolean (.int 1) = true; decide)⟩
theorem gs_put {idx ci sl ne ps a : Nat} {fs : List Value} {v : Value} (X : gCx p s m args meth c cc nL own nm D ex) (hd : decode cc pc = .ok (.putfield idx, 3)) (hck : gchkF own nm true idx 3 [ci, sl, ne, ps] = true) (ha : S.2.2 a = .inr (ci, fs)) (hsl : sl < fs.length) (hfit : gfit (gty ci sl) v = true)
    (k : gG p l e R s m args below meth c Q nL D B ex H0 n0 u0 (pc + 3) L r (S.1, S.2.1, gset S.2.2 a (.inr (ci, fs.set sl v)))) : gG p l e R s m args below meth c Q nL D B ex H0 n0 u0 pc L (v :: .ref a :: r) S := by
  intro ls H locs cells slots hL hR hl hc hs
  obtain ⟨hx, hb, hml, hown, hts, hnm, hKN⟩ := X
  have hne : fs ≠ [] := by
    intro h
    rw [h] at hsl
    simp at hsl
  obtain ⟨h9, hz, hlt, q, hq, hlen, cell, q1, q2, q3, q4⟩ := g_int hR ha hne
  simp only [gchkF, hq, Bool.and_eq_true, beq_self_eq_true, true_and, decide_eq_true_eq, Bool.not_true, Bool.false_or] at hck
  obtain ⟨hk, hdecl, hlk, hfin⟩ := hck
  have hk' : sl < q.2.2 := Nat.ble_eq.mp hk
  have e1 : gcv B ex (.ref a) = .ref (B + a) := by simp [gcv, g_gal h9]
  have hap := va_apart (own := own) (s := s) (args := args) (D := D) (cl := gcl) (tys := []) hts (gcl_in hq) (gty ci) (gcl_ty hq) (gcl_nm hq) hKN.1 hq
  obtain ⟨hS, hfc, kC, hkC, hkind⟩ := hKN.1.1 ci _ hq
  obtain ⟨cf, kf, fi, f, hi, hsl2⟩ := hS sl hk'
  have hst := (u_facts hfc hkC (u_lays hts (gcl_in hq) hk') hi).1
  obtain ⟨hn1, hf1⟩ := gfit_ok (B := B) (ex := ex) hfit
  have hi' : s.fieldFound? q.1 (q.2.1 sl).2.1 (q.2.1 sl).2.2.1 = some (cf, kf, fi, f) := by rw [← hdecl]; exact hi
  have fin : ∀ H' : Heap, H'[B + a]? = some (cell.setSlot f.slot (gcv B ex v)) → H'.size = H.size → (∀ q, q ≠ B + a → H'[q]? = H[q]?) → W p l e R s m args below meth c H' (locs ++ [⟨B + a, f.slot⟩]) cells slots Q (F0 m (pc + 3) ls (r.map (gcv B ex))) := by
    intro H' g1 g2 g3
    refine k ls H' _ cells slots hL (gRH_set hR h9 hz ?_ g2 g3) ?_ hc hs
    · refine ⟨q, hq, by rw [List.length_set]; exact hlen, ?_⟩
      rw [hsl2] at g1
      refine t_OB.to (V := updV (vp_V (fs.map (gcv B ex))) sl (gcv B ex v)) ⟨_, g1, q2, q3, t_set q4 hap hk' _⟩ (fun j _ => ?_)
      rw [List.map_set]
      exact vp_updV_set (by rw [List.length_map]; exact hsl) _ j
    · intro z hz2
      rcases List.mem_append.mp hz2 with h | h
      · exact hl z h
      · rw [List.mem_singleton.mp h]
        exact Nat.le_add_right _ _
  simp only [List.map_cons, e1]
  have hlay := hts _ (gcl_in hq _ (u_in_lay hk'))
  unfold u_lay at hlay
  have hdd := gcl_ty hq sl hk'
  cases hfl : (q.2.1 sl).2.2.2 with
  | false =>
    rw [hfl] at hlay
    simp only [Bool.false_eq_true, if_false] at hlay
    have h6 := u_store hfc hkC hkind hlay hi hdd hn1 hf1
    cases hn : Nat.beq ne 0 with
    | true =>
      rw [hn] at hlk
      simp only [cond_true] at hlk
      exact W.putK hx hb (f := f) ⟨hown, hts _ (gtb_good hlk (gw_field _ _ _ _ _)), ⟨_, _, _, hi'⟩, hst⟩ (by rw [q2]; exact h6) q1 q3 (by rw [hsl2]; exact k2_hasslot (q4 sl hk')) rfl rfl hd fin
    | false =>
      rw [hn] at hlk
      simp only [cond_false] at hlk
      exact va_WputK hx hb (f := f) hown (va_Nw.use rfl (hKN.2.1 _ (gtb_nest hlk rfl))) hi' hst (by rw [q2]; exact h6) q1 q3 (by rw [hsl2]; exact k2_hasslot (q4 sl hk')) rfl rfl hd fin
  | true =>
    rw [hfl] at hfin hlay
    simp only [if_true] at hlay
    simp only [Bool.not_true, Bool.false_or, Bool.and_eq_true, decide_eq_true_eq] at hfin
    obtain ⟨hn, hnm2, hown2⟩ := hfin
    rw [hn] at hlk
    simp only [cond_true] at hlk
    have h6 := u_fits hfc hkC hkind (Or.inr hlay) hi hdd hn1 hf1
    have hcf : m.cls = cf := by
      obtain ⟨_, _, w, _, _, _, -, -, hw, -, -, -, how, -⟩ := Cond.laysFinal_spec hlay
      have hwc : w = cf := congrArg Prod.fst (Option.some.inj (hw.symm.trans hi))
      rw [hdecl, hown2, hwc] at how
      exact Option.some.inj (hown.symm.trans how)
    exact W.putFinK hx hb hown (hts _ (gtb_good hlk (gw_field _ _ _ _ _))) hi' hst hcf (hnm.trans hnm2) (by rw [q2]; exact h6) q1 q3 (by rw [hsl2]; exact k2_hasslot (q4 sl hk')) rfl rfl hd fin
/-! a heap with one cell more; a row of values read and written -/
theorem g_top (H : Heap) (x : Cell) : (H.push x)[H.size]? = some x := Array.getElem?_push_size
theorem g_old (H : Heap) (x : Cell) {j : Nat} (hj : j < H.size) : (H.push x)[j]? = H[j]? := by
  rw [Array.getElem?_push]
  exact if_neg (by omega)
theorem g_inb {d : ClassId} {n : Nat} {g : Nat → Value} {i : Int32} (h : ¬ (i < 0 ∨ n ≤ i.toNatClampNeg)) : ¬ (i < 0 ∨ (arrV d n g).slots.size ≤ i.toNatClampNeg) := by
  simp only [arrV_size]
  exact h
theorem g_putV {d : ClassId} {n j : Nat} {v : Value} {g h : Nat → Value} (hj : h j = v) (ho : ∀ t, t ≠ j → h t = g t) : (arrV d n g).setSlot j v = arrV d n h := by
  have hu : updV g j v = h := funext fun t => by
    unfold updV
    split
    next z => rw [z, hj]
    next z => exact (ho t z).symm
  rw [arrV_store, hu]
/-! making -/
theorem gs_new {idx ci ps : Nat} {q : vw_C} (X : gCx p s m args meth c cc nL own nm D ex) (hd : decode cc pc = .ok (.new idx, 3)) (hq : gcl[ci]? = some q) (hlk : gtb ps (.classLink own idx q.1) = true) (hn : S.1 < 1000000) (hr1 : S.1 + 1 ≤ n0 + R.cells) (hr2 : S.2.1 + q.2.2 ≤ u0 + R.slots)
    (k : gG p l e R s m args below meth c Q nL D B ex H0 n0 u0 (pc + 3) L (.ref S.1 :: st) (S.1 + 1, S.2.1 + q.2.2, gset S.2.2 S.1 (.inr (ci, gdv ci q.2.2)))) : gG p l e R s m args below meth c Q nL D B ex H0 n0 u0 pc L st S := by
  intro ls H locs cells slots hL hR hl hc hs
  obtain ⟨hx, hb, hml, hown, hts, hnm, hKN⟩ := X
  have hKn := hKN.1.1 ci _ hq
  obtain ⟨hmk1, hmk2⟩ := gcl_mk hq
  refine W.newcK hx hb hown (hts _ (gtb_good hlk (gw_class _ _ _))) (hts _ hmk1) (hts _ hmk2) rfl hd (by omega) (by omega) hKn.2.1 rfl fun H1 kC hkC e1 z1 o1 => ?_
  have e2 : gcv B ex (.ref S.1) = .ref H.size := by
    simp only [gcv]
    rw [g_gal (by omega), hR.1]
  have hat : gat D s B ex H1 S.1 (.inr (ci, gdv ci q.2.2)) := by
    refine ⟨q, hq, by simp [gdv], ?_⟩
    rw [hR.1] at e1
    refine (u_born (gty ci) hts (gcl_in hq) hKn hkC e1 (gcl_ty hq)).to (fun j hj => ?_)
    have h0 : (gdv ci q.2.2)[j]? = some (defaultValue (gty ci j)) := by simp [gdv, hj]
    have h1 : ((gdv ci q.2.2).map (gcv B ex))[j]? = some (gcv B ex (defaultValue (gty ci j))) := by rw [List.getElem?_map, h0]; rfl
    have h2 : gcv B ex (defaultValue (gty ci j)) = defaultValue (gty ci j) := by cases gty ci j <;> rfl
    rw [h2] at h1
    simp [vp_V, h1]
  have kk := k ls H1 locs (cells + 1) (slots + q.2.2) hL (gRH_push _ hR hn hat z1 o1) hl (by dsimp only; omega) (by dsimp only; omega)
  simp only [List.map_cons, e2] at kk
  exact kk
theorem gs_newa {at_ : ArrayType} {ty : FieldType} {ps : Nat} {n : Int32} {a0 : vp_A} (X : gCx p s m args meth c cc nL own nm D ex) (hd : decode cc pc = .ok (.newarray at_, 2)) (hlk : gtb ps (.arrayClass (newarray.typeOf at_)) = true) (hty : newarray.typeOf at_ = ty) (hra : ∀ cA U, U.vm.findClass ("[" ++ ty.toString) = some cA → va_RA U cA ty) (ha0 : ∀ cA : ClassId, vp_cell cA (gcvA B ex a0) = arrV cA n.toNatClampNeg (fun _ => defaultValue ty)) (h0 : ¬ n < 0) (h1 : n.toNatClampNeg ≤ 1000000) (hcb : componentBytes ty ≤ 8) (hn : S.1 < 1000000) (hr1 : S.1 + 1 ≤ n0 + R.cells) (hr2 : S.2.1 + n.toNatClampNeg ≤ u0 + R.slots)
    (k : gG p l e R s m args below meth c Q nL D B ex H0 n0 u0 (pc + 2) L (.ref S.1 :: r) (S.1 + 1, S.2.1 + n.toNatClampNeg, gset S.2.2 S.1 (.inl (ty, a0)))) : gG p l e R s m args below meth c Q nL D B ex H0 n0 u0 pc L (.int n :: r) S := by
  intro ls H locs cells slots hL hR hl hc hs
  obtain ⟨hx, hb, hml, hown, hts, hnm, hKN⟩ := X
  subst hty
  refine va_newaK hx hb (hts _ (gtb_good hlk (gw_arr _))) rfl hd rfl h0 rfl (Nat.le_trans (Nat.mul_le_mul h1 hcb) (by decide)) (by omega) (by omega) rfl fun H1 cA e1 z1 o1 hAr hNm => ?_
  have e2 : gcv B ex (.ref S.1) = .ref H.size := by
    simp only [gcv]
    rw [g_gal (by omega), hR.1]
  have hat : gat D s B ex H1 S.1 (.inl (newarray.typeOf at_, a0)) := by
    refine ⟨cA, hAr, hra cA s hNm, ?_⟩
    rw [ha0, ← hR.1]
    exact e1
  have kk := k ls H1 locs (cells + 1) (slots + n.toNatClampNeg) hL (gRH_push _ hR hn hat z1 o1) hl (by dsimp only; omega) (by dsimp only; omega)
  simp only [List.map_cons, e2] at kk
  exact kk
theorem gs_newq {idx ps : Nat} {q : vw_C} {n : Int32} (X : gCx p s m args meth c cc nL own nm D ex) (hd : decode cc pc = .ok (.anewarray idx, 3)) (hlk : gtb ps (.classLink own idx q.1) = true) (hao : q.1 ∈ gAO) (h0 : ¬ n < 0) (h1 : n.toNatClampNeg ≤ 1000000) (hn : S.1 < 1000000) (hr1 : S.1 + 1 ≤ n0 + R.cells) (hr2 : S.2.1 + n.toNatClampNeg ≤ u0 + R.slots)
    (k : gG p l e R s m args below meth c Q nL D B ex H0 n0 u0 (pc + 3) L (.ref S.1 :: r) (S.1 + 1, S.2.1 + n.toNatClampNeg, gset S.2.2 S.1 (.inl (.object q.1, n.toNatClampNeg, .inr (.inr (.inr (.inr (fun _ => none)))))))) : gG p l e R s m args below meth c Q nL D B ex H0 n0 u0 pc L (.int n :: r) S := by
  intro ls H locs cells slots hL hR hl hc hs
  obtain ⟨hx, hb, hml, hown, hts, hnm, hKN⟩ := X
  refine W.anew hx hb hown (hts _ (gtb_good hlk (gw_class _ _ _))) (va_AO.use (hKN.2.2.1 _ hao)) rfl hd rfl h0 (by omega) (by omega) (by omega) ?_
  intro d kd cm y1 y2 y3 y4
  rw [arrV_new d n.toNatClampNeg .null]
  have hty : ArrOfT s d (.object q.1) := fun _ _ => ⟨fun _ z => (nomatch z), kd, y2, cm, y3⟩
  have hat : gat D s B ex (H.push (arrV d n.toNatClampNeg fun _ => .null)) S.1 (.inl (.object q.1, n.toNatClampNeg, .inr (.inr (.inr (.inr (fun _ => none)))))) := by
    refine ⟨d, hty, ⟨kd, cm, y2, y3, y4, y1⟩, ?_⟩
    rw [← hR.1]
    exact g_top H _
  have kk := k ls _ locs (cells + 1) (slots + n.toNatClampNeg) hL (gRH_push _ hR hn hat (Array.size_push _) fun _ hj => g_old H _ hj) hl (by dsimp only; omega) (by dsimp only; omega)
  have hre : gcv B ex (.ref S.1) = .ref H.size := by
    simp only [gcv]
    rw [g_gal (by omega), hR.1]
  rw [List.map_cons, hre] at kk
  exact kk
/-! arrays -/
theorem gs_iald {ty : FieldType} {i : Int32} {a n : Nat} {f : Nat → Int32} (X : gCx p s m args meth c cc nL own nm D ex) (hty : (ty = .int ∧ decode cc pc = .ok (.iaload, 1)) ∨ (ty = .char ∧ decode cc pc = .ok (.caload, 1)) ∨ (ty = .boolean ∧ decode cc pc = .ok (.baload, 1)) ∨ (ty = .byte ∧ decode cc pc = .ok (.baload, 1))) (ha : S.2.2 a = .inl (ty, n, .inl f)) (hin : ¬ (i < 0 ∨ n ≤ i.toNatClampNeg))
    (k : gG p l e R s m args below meth c Q nL D B ex H0 n0 u0 (pc + 1) L (.int (f i.toNatClampNeg) :: r) S) : gG p l e R s m args below meth c Q nL D B ex H0 n0 u0 pc L (.int i :: .ref a :: r) S := by
  intro ls H locs cells slots hL hR hl hc hs
  obtain ⟨hx, hb, hml, hown, hts, hnm, hKN⟩ := X
  obtain ⟨cell, k1, k2, k3, k4, k5⟩ := g_read hR ha
  have kk := k ls H locs cells slots hL hR hl hc hs
  have hlt : i.toNatClampNeg < n := by omega
  rcases hty with ⟨rfl, hd⟩ | ⟨rfl, hd⟩ | ⟨rfl, hd⟩ | ⟨rfl, hd⟩
  · exact W.iald hx hb k1 k2 k3 (by rw [k4]; exact hin) (k5 _ hlt) rfl rfl hd kk
  · exact W.cald hx hb k1 k2 k3 (by rw [k4]; exact hin) (k5 _ hlt) rfl rfl hd kk
  · exact W.zald hx hb k1 k2 k3 (by rw [k4]; exact hin) (k5 _ hlt) rfl rfl hd kk
  · exact W.bald hx hb k1 k2 k3 (by rw [k4]; exact hin) (k5 _ hlt) rfl rfl hd kk
theorem g_ext9 {H : Heap} {a : Nat} {t : FieldType} {n : Nat} {x} (hR : gRH D s B ex H0 S H) (ha : S.2.2 a = .inl (t, n, .inr x)) : a < 1000000000 := by
  rcases Nat.lt_or_ge a 1000000000 with h | h
  · exact h
  · have hz : S.2.2 a ≠ gz := by
      rw [ha]
      intro h
      simp [gz] at h
    have := hR.2.2.2.2.2 a h hz
    rw [ha] at this
    exact this.elim
theorem gs_lald {i : Int32} {a n : Nat} {f : Nat → Int64} (X : gCx p s m args meth c cc nL own nm D ex) (hd : decode cc pc = .ok (.laload, 1)) (ha : S.2.2 a = .inl (.long, n, .inr (.inl f))) (hin : ¬ (i < 0 ∨ n ≤ i.toNatClampNeg))
    (k : gG p l e R s m args below meth c Q nL D B ex H0 n0 u0 (pc + 1) L (.long (f i.toNatClampNeg) :: r) S) : gG p l e R s m args below meth c Q nL D B ex H0 n0 u0 pc L (.int i :: .ref a :: r) S := by
  intro ls H locs cells slots hL hR hl hc hs
  obtain ⟨hx, hb, hml, hown, hts, hnm, hKN⟩ := X
  have h9 := g_ext9 hR ha
  obtain ⟨hz, hlt0, cA, k1, k2, k3⟩ := g_arr hR ha h9
  have kk := k ls H locs cells slots hL hR hl hc hs
  have hlt : i.toNatClampNeg < n := by omega
  have e1 : gcv B ex (.ref a) = .ref (B + a) := by simp [gcv, g_gal h9]
  simp only [List.map_cons, e1] at kk ⊢
  exact W.lald hx hb k3 (k1 n (fun j => .long (f j))) (fun q => by cases q) (g_inb hin) (arrV_read cA (fun j => Value.long (f j)) hlt) rfl rfl hd kk
theorem gs_aald {i : Int32} {a n : Nat} {C : String} {f : Nat → Option Nat} (X : gCx p s m args meth c cc nL own nm D ex) (hd : decode cc pc = .ok (.aaload, 1)) (ha : S.2.2 a = .inl (.object C, n, .inr (.inr (.inr (.inr f))))) (hin : ¬ (i < 0 ∨ n ≤ i.toNatClampNeg))
    (k : gG p l e R s m args below meth c Q nL D B ex H0 n0 u0 (pc + 1) L (va_rf (f i.toNatClampNeg) :: r) S) : gG p l e R s m args below meth c Q nL D B ex H0 n0 u0 pc L (.int i :: .ref a :: r) S := by
  intro ls H locs cells slots hL hR hl hc hs
  obtain ⟨hx, hb, hml, hown, hts, hnm, hKN⟩ := X
  have h9 := g_ext9 hR ha
  obtain ⟨hz, hlt0, cA, k1, k2, k3⟩ := g_arr hR ha h9
  have kk := k ls H locs cells slots hL hR hl hc hs
  have hlt : i.toNatClampNeg < n := by omega
  have e1 : gcv B ex (.ref a) = .ref (B + a) := by simp [gcv, g_gal h9]
  have e3 : gcv B ex (va_rf (f i.toNatClampNeg)) = va_rf ((f i.toNatClampNeg).map (gal B ex)) := by cases f i.toNatClampNeg <;> rfl
  simp only [List.map_cons, e1, e3] at kk ⊢
  exact W.aald (v := va_rf ((f i.toNatClampNeg).map (gal B ex))) (ty := .object C) hx hb k3 (k1 n (fun j => va_rf ((f j).map (gal B ex)))) rfl (fun q => by cases q) (g_inb hin) (arrV_read cA (fun j => va_rf ((f j).map (gal B ex))) hlt) rfl rfl hd kk
theorem gs_alen {a n : Nat} {t : FieldType} {x} (X : gCx p s m args meth c cc nL own nm D ex) (hd : decode cc pc = .ok (.arraylength, 1)) (ha : S.2.2 a = .inl (t, n, x))
    (k : gG p l e R s m args below meth c Q nL D B ex H0 n0 u0 (pc + 1) L (.int (Int32.ofNat n) :: r) S) : gG p l e R s m args below meth c Q nL D B ex H0 n0 u0 pc L (.ref a :: r) S := by
  intro ls H locs cells slots hL hR hl hc hs
  obtain ⟨hx, hb, hml, hown, hts, hnm, hKN⟩ := X
  have kk := k ls H locs cells slots hL hR hl hc hs
  rcases x with f | x
  · obtain ⟨cell, k1, k2, k3, k4, k5⟩ := g_read hR ha
    exact W.alen hx hb k1 k2 (by rw [k4]) rfl rfl hd kk
  · have h9 := g_ext9 hR ha
    obtain ⟨hz, hlt0, cA, k1, k2, k3⟩ := g_arr hR ha h9
    have e1 : gcv B ex (.ref a) = .ref (B + a) := by simp [gcv, g_gal h9]
    simp only [List.map_cons, e1] at kk ⊢
    rcases x with f | f | f | f
    · exact W.alen hx hb k3 (k1 n (fun j => .long (f j))) (by show (arrV _ _ _).slots.size.toInt32 = _; rw [arrV_size]; rfl) rfl rfl hd kk
    · exact W.alen hx hb k3 (k1 n (fun j => .float (f j))) (by show (arrV _ _ _).slots.size.toInt32 = _; rw [arrV_size]; rfl) rfl rfl hd kk
    · exact W.alen hx hb k3 (k1 n (fun j => .double (f j))) (by show (arrV _ _ _).slots.size.toInt32 = _; rw [arrV_size]; rfl) rfl rfl hd kk
    · exact W.alen hx hb k3 (k1 n (fun j => va_rf ((f j).map (gal B ex)))) (by show (arrV _ _ _).slots.size.toInt32 = _; rw [arrV_size]; rfl) rfl rfl hd kk
theorem g_locs {locs : List Loc} {a i : Nat} (hl : ∀ q ∈ locs, B ≤ q.base) : ∀ q ∈ locs ++ [(⟨B + a, i⟩ : Loc)], B ≤ q.base := by
  intro z hz2
  rcases List.mem_append.mp hz2 with h | h
  · exact hl z h
  · rw [List.mem_singleton.mp h]
    exact Nat.le_add_right _ _
theorem g_stored {cA : ClassId} {n j : Nat} {f : Nat → Int32} {x : Int32} : (arrV cA n (fun j => .int (f j))).setSlot j (.int x) = arrV cA n (fun q => .int (upd f j x q)) :=
  g_putV (by simp [upd]) fun t ht => by simp [upd, ht]
theorem gs_iast {ty : FieldType} {x i : Int32} {a n : Nat} {f : Nat → Int32} (X : gCx p s m args meth c cc nL own nm D ex) (hty : (ty = .int ∧ decode cc pc = .ok (.iastore, 1)) ∨ (ty = .char ∧ decode cc pc = .ok (.castore, 1) ∧ vp_nar .char x = x) ∨ (ty = .boolean ∧ decode cc pc = .ok (.bastore, 1) ∧ (x = 0 ∨ x = 1))) (ha : S.2.2 a = .inl (ty, n, .inl f)) (h9 : a < 1000000000) (hin : ¬ (i < 0 ∨ n ≤ i.toNatClampNeg))
    (k : gG p l e R s m args below meth c Q nL D B ex H0 n0 u0 (pc + 1) L r (S.1, S.2.1, gset S.2.2 a (.inl (ty, n, .inl (upd f i.toNatClampNeg x))))) : gG p l e R s m args below meth c Q nL D B ex H0 n0 u0 pc L (.int x :: .int i :: .ref a :: r) S := by
  intro ls H locs cells slots hL hR hl hc hs
  obtain ⟨hx, hb, hml, hown, hts, hnm, hKN⟩ := X
  obtain ⟨hz, hlt0, cA, k1, k2, k3⟩ := g_arr hR ha h9
  have e1 : gcv B ex (.ref a) = .ref (B + a) := by simp [gcv, g_gal h9]
  simp only [List.map_cons, e1]
  have hin2 : ¬ (i < 0 ∨ (vp_cell cA (gcvA B ex (n, .inl f))).slots.size ≤ i.toNatClampNeg) := g_inb hin
  have fin : ∀ H' : Heap, H'[B + a]? = some ((vp_cell cA (gcvA B ex (n, .inl f))).setSlot i.toNatClampNeg (.int x)) → H'.size = H.size → (∀ q, q ≠ B + a → H'[q]? = H[q]?) → W p l e R s m args below meth c H' (locs ++ [⟨B + a, i.toNatClampNeg⟩]) cells slots Q (F0 m (pc + 1) ls (r.map (gcv B ex))) := by
    intro H' g1 g2 g3
    refine k ls H' _ cells slots hL (gRH_set hR h9 hz ⟨cA, k1, k2, ?_⟩ g2 g3) (g_locs hl) hc hs
    rw [g1]
    exact congrArg some g_stored
  rcases hty with ⟨rfl, hd⟩ | ⟨rfl, hd, hn⟩ | ⟨rfl, hd, hn⟩
  · exact W.iast hx hb k3 (k1 n (fun j => .int (f j))) (fun q => by cases q) hin2 rfl rfl hd fin
  · refine W.cast hx hb k3 (k1 n (fun j => .int (f j))) (fun q => by cases q) hin2 rfl rfl hd fun H' g1 g2 g3 => fin H' ?_ g2 g3
    rw [g1]
    have e5 : narrow .char (.int x) = .int x := by rw [vp_nar_char] at hn; exact congrArg Value.int hn
    first | rw [e5] | (simp only [narrow] at e5; rw [e5]) | exact congrArg (fun z => some (Cell.setSlot _ _ z)) e5
  · refine W.zast hx hb k3 (k1 n (fun j => .int (f j))) (fun q => by cases q) hin2 rfl rfl hd fun H' g1 g2 g3 => fin H' ?_ g2 g3
    rw [g1]
    rcases hn with rfl | rfl <;> rfl
theorem gs_last {x : Int64} {i : Int32} {a n : Nat} {f : Nat → Int64} (X : gCx p s m args meth c cc nL own nm D ex) (hd : decode cc pc = .ok (.lastore, 1)) (ha : S.2.2 a = .inl (.long, n, .inr (.inl f))) (h9 : a < 1000000000) (hin : ¬ (i < 0 ∨ n ≤ i.toNatClampNeg))
    (k : gG p l e R s m args below meth c Q nL D B ex H0 n0 u0 (pc + 1) L r (S.1, S.2.1, gset S.2.2 a (.inl (.long, n, .inr (.inl (vp_updL f i.toNatClampNeg x)))))) : gG p l e R s m args below meth c Q nL D B ex H0 n0 u0 pc L (.long x :: .int i :: .ref a :: r) S := by
  intro ls H locs cells slots hL hR hl hc hs
  obtain ⟨hx, hb, hml, hown, hts, hnm, hKN⟩ := X
  obtain ⟨hz, hlt0, cA, k1, k2, k3⟩ := g_arr hR ha h9
  have e1 : gcv B ex (.ref a) = .ref (B + a) := by simp [gcv, g_gal h9]
  simp only [List.map_cons, e1]
  refine W.last hx hb k3 (k1 n (fun j => .long (f j))) (fun q => by cases q) (g_inb hin) rfl rfl hd fun H' g1 g2 g3 => ?_
  refine k ls H' _ cells slots hL (gRH_set hR h9 hz ⟨cA, k1, k2, ?_⟩ g2 g3) (g_locs hl) hc hs
  rw [g1]
  refine congrArg some ?_
  show (arrV cA n (fun j => .long (f j))).setSlot i.toNatClampNeg (.long x) = arrV cA n (fun j => .long (vp_updL f i.toNatClampNeg x j))
  exact g_putV (by simp [vp_updL]) fun t ht => by simp [vp_updL, ht]
theorem gs_aast {v : Nat} {i : Int32} {a n ci : Nat} {C : String} {fs : List Value} {f : Nat → Option Nat} (X : gCx p s m args meth c cc nL own nm D ex) (hd : decode cc pc = .ok (.aastore, 1)) (ha : S.2.2 a = .inl (.object C, n, .inr (.inr (.inr (.inr f))))) (hv : S.2.2 v = .inr (ci, fs)) (hC : (gcl[ci]?.map (fun q => q.1)) = some C) (h9 : a < 1000000000) (hin : ¬ (i < 0 ∨ n ≤ i.toNatClampNeg))
    (k : gG p l e R s m args below meth c Q nL D B ex H0 n0 u0 (pc + 1) L r (S.1, S.2.1, gset S.2.2 a (.inl (.object C, n, .inr (.inr (.inr (.inr (va_up f i.toNatClampNeg (some v))))))))) : gG p l e R s m args below meth c Q nL D B ex H0 n0 u0 pc L (.ref v :: .int i :: .ref a :: r) S := by
  intro ls H locs cells slots hL hR hl hc hs
  obtain ⟨hx, hb, hml, hown, hts, hnm, hKN⟩ := X
  obtain ⟨hz, hlt0, cA, k1, k2, k3⟩ := g_arr hR ha h9
  have e1 : gcv B ex (.ref a) = .ref (B + a) := by simp [gcv, g_gal h9]
  cases hq : gcl[ci]? with
  | none => rw [hq] at hC; cases hC
  | some q =>
    rw [hq] at hC
    have hqC : q.1 = C := Option.some.inj hC
    subst hqC
    have hne : S.2.2 v ≠ gz := by
      rw [hv]
      intro h
      simp only [gz, Sum.inr.injEq, Prod.mk.injEq] at h
      rw [h.1] at hq
      simp [gcl] at hq
    have hv9 : v < 1000000000 := by
      rcases Nat.lt_or_ge v 1000000000 with h | h
      · exact h
      · have := hR.2.2.2.2.2 v h hne
        rw [hv] at this
        exact this.elim
    have hvat := hR.2.2.2.2.1 v hv9 hne
    rw [hv] at hvat
    obtain ⟨hvlt, r', hr', hlen', cellV, g1, g2, g3, -⟩ := hvat
    have e4 : gcv B ex (.ref v) = .ref (B + v) := by simp [gcv, g_gal hv9]
    simp only [List.map_cons, e1, e4]
    have hcls := (hKN.1.1 ci q hq).2
    obtain ⟨kA, comp, t1, t2, t3, t4⟩ := k2
    have hcomp : comp = D.1 ci := Option.some.inj (t3.symm.trans hcls.1)
    subst hcomp
    obtain ⟨kC, hkC, -⟩ := hcls.2
    have hbd : ¬ i < 0 ∧ i.toNatClampNeg < (arrV cA n (fun j => va_rf ((f j).map (gal B ex)))).slots.size := by
      rw [arrV_size]
      exact ⟨fun z => hin (.inl z), by omega⟩
    have hcV : s.vm.classes[cellV.cls]? = some kC := by rw [g2]; exact hkC
    have hin2 : s.vm.assignable cellV.cls (D.1 ci) = true := by rw [g2]; exact va_assign hcls
    refine W.aast hx hb k3 (fun _ z => nomatch z) (fun z => nomatch z) t1 t2 rfl hkC hbd g1 (fun _ z => nomatch g3.symm.trans z) hcV hin2 rfl rfl hd fun H1 e z oq => ?_
    refine k ls H1 _ cells slots hL (gRH_set hR h9 hz ⟨cA, k1, ⟨kA, _, t1, t2, t3, t4⟩, ?_⟩ z oq) (g_locs hl) hc hs
    rw [e]
    refine congrArg some ?_
    show (arrV cA n (fun j => va_rf ((f j).map (gal B ex)))).setSlot i.toNatClampNeg (.ref (B + v)) = arrV cA n (fun j => va_rf ((va_up f i.toNatClampNeg (some v) j).map (gal B ex)))
    exact g_putV (by simp [va_up, va_rf, g_gal hv9]) fun t ht => by simp [va_up, ht]
end GSM
