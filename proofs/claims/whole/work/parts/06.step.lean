/-! ===== an instruction of the small machine is one of the JVM's ===== -/
def gG (p : Program) (l : Launch) (e : Env) (R : Room) (s : State) (m : MethodId) (args : Array Value) (below : List Frame) (meth : Method) (c : Code) (Q : State → Prop) (nL : Nat) (D : va_G) (B : Nat) (ex : Nat → Nat) (H0 : Heap) (n0 u0 : Nat) (pc : Nat) (L : gL) (st : List Value) (S : gS) : Prop :=
  ∀ (ls : Array Slot) (H : Heap) (locs : List Loc) (cells slots : Nat), gLR B ex ls nL L → gRH D s B ex H0 S H → (∀ q ∈ locs, B ≤ q.base) → n0 + cells = S.1 → u0 + slots = S.2.1 → W p l e R s m args below meth c H locs cells slots Q (F0 m pc ls (st.map (gcv B ex)))
abbrev gCx (p : Program) (s : State) (m : MethodId) (args : Array Value) (meth : Method) (c : Code) (cc : ByteArray) (nL : Nat) (own nm : String) (D : va_G) (ex : Nat → Nat) : Prop :=
  p.tables.exec = Jvm.exec ∧ c.code = cc ∧ c.maxLocals = nL ∧ s.vm.findClass own = some m.cls ∧ (∀ w ∈ gGW, w.before args s = true) ∧ meth.name = nm ∧ gKN D ex s
section GST
variable {p : Program} {l : Launch} {e : Env} {R : Room} {s : State} {m : MethodId} {args : Array Value} {below : List Frame} {meth : Method} {c : Code} {Q : State → Prop}
variable {cc : ByteArray} {nL : Nat} {own nm : String} {D : va_G} {B : Nat} {ex : Nat → Nat} {H0 : Heap} {n0 u0 : Nat} {pc : Nat} {L : gL} {st : List Value} {S : gS}
/-! reading -/
theorem g_int {H : Heap} {a : Nat} {ci : Nat} {fs : List Value} (hR : gRH D s B ex H0 S H) (ha : S.2.2 a = .inr (ci, fs)) (hf : fs ≠ []) : a < 1000000000 ∧ S.2.2 a ≠ gz ∧ a < S.1 ∧ gat D s B ex H a (.inr (ci, fs)) := by
  have hz : S.2.2 a ≠ gz := by
    rw [ha]
    intro h
    simp only [gz, Sum.inr.injEq, Prod.mk.injEq] at h
    exact hf h.2
  have h9 : a < 1000000000 := by
    rcases Nat.lt_or_ge a 1000000000 with h | h
    · exact h
    · have := hR.2.2.2.2.2 a h hz
      rw [ha] at this
      exact this.elim
  have h1 := hR.2.2.2.2.1 a h9 hz
  rw [ha] at h1
  exact ⟨h9, hz, h1.1, h1.2⟩
theorem g_arr {H : Heap} {a : Nat} {x : FieldType × vp_A} (hR : gRH D s B ex H0 S H) (ha : S.2.2 a = .inl x) (h9 : a < 1000000000) : S.2.2 a ≠ gz ∧ a < S.1 ∧ gat D s B ex H a (.inl x) := by
  have hz : S.2.2 a ≠ gz := by
    rw [ha]
    intro h
    simp [gz] at h
  have h1 := hR.2.2.2.2.1 a h9 hz
  rw [ha] at h1
  exact ⟨hz, h1.1, h1.2⟩
theorem g_gal {a : Nat} (h : a < 1000000000) : gal B ex a = B + a := by simp [gal, h]
theorem g_read {H : Heap} {a n : Nat} {ty : FieldType} {f : Nat → Int32} (hR : gRH D s B ex H0 S H) (ha : S.2.2 a = .inl (ty, n, .inl f)) : ∃ cell : Cell, H[gal B ex a]? = some cell ∧ s.isArrayOf cell ty ∧ cell.vm ≠ .unknown ∧ cell.slots.size = n ∧ ∀ j : Nat, j < n → cell.slots[j]? = some (.int (f j)) := by
  rcases Nat.lt_or_ge a 1000000000 with h9 | h9
  · obtain ⟨hz, hlt, cA, h1, h2, h3⟩ := g_arr hR ha h9
    rw [g_gal h9]
    exact ⟨_, h3, h1 n (fun j => .int (f j)), (fun q => by cases q), arrV_size _ _ _, fun j hj => arrV_read _ _ hj⟩
  · have hz : S.2.2 a ≠ gz := by
      rw [ha]
      intro h
      simp [gz] at h
    have h1 := hR.2.2.2.2.2 a h9 hz
    rw [ha] at h1
    obtain ⟨cell, k1, k2, k3, k4, k5⟩ := h1
    have hlt : ex a < H0.size := (Array.getElem?_eq_some_iff.mp k1).1
    have e1 : gal B ex a = ex a := by simp [gal, Nat.not_lt.mpr h9]
    rw [e1]
    refine ⟨cell, ?_, k2, k3, k4, k5⟩
    rw [hR.2.2.2.1 (ex a) (by rw [← hR.2.2.1.1]; exact hlt)]
    exact k1
/-! inversions -/
theorem gpush_inv {len : Nat} {w : Value} {o : Nat × gL × List Value × gS} (h : gpush len w pc L st S = some o) : o = (pc + len, L, w :: st, S) := (Option.some.inj h).symm
theorem gii_inv {f : Int32 → Int32 → Int32} {o : Nat × gL × List Value × gS} (h : gii f pc L st S = some o) : ∃ x y r, st = .int y :: .int x :: r ∧ o = (pc + 1, L, .int (f x y) :: r, S) := by
  unfold gii at h
  split at h
  · exact ⟨_, _, _, rfl, (Option.some.inj h).symm⟩
  · cases h
theorem gll_inv {f : Int64 → Int64 → Int64} {o : Nat × gL × List Value × gS} (h : gll f pc L st S = some o) : ∃ x y r, st = .long y :: .long x :: r ∧ o = (pc + 1, L, .long (f x y) :: r, S) := by
  unfold gll at h
  split at h
  · exact ⟨_, _, _, rfl, (Option.some.inj h).symm⟩
  · cases h
theorem gli_inv {f : Int64 → Int32 → Int64} {o : Nat × gL × List Value × gS} (h : gli f pc L st S = some o) : ∃ x y r, st = .int y :: .long x :: r ∧ o = (pc + 1, L, .long (f x y) :: r, S) := by
  unfold gli at h
  split at h
  · exact ⟨_, _, _, rfl, (Option.some.inj h).symm⟩
  · cases h
theorem giload_inv {len i : Nat} {o : Nat × gL × List Value × gS} (h : giload len i pc L st S = some o) : ∃ x, gl L i = some (.int x) ∧ o = (pc + len, L, .int x :: st, S) := by
  unfold giload at h
  split at h
  · exact ⟨_, by assumption, (Option.some.inj h).symm⟩
  · cases h
theorem glload_inv {len i : Nat} {o : Nat × gL × List Value × gS} (h : glload len i pc L st S = some o) : ∃ x, gl L i = some (.long x) ∧ o = (pc + len, L, .long x :: st, S) := by
  unfold glload at h
  split at h
  · exact ⟨_, by assumption, (Option.some.inj h).symm⟩
  · cases h
theorem galoadL_inv {len i : Nat} {o : Nat × gL × List Value × gS} (h : galoadL len i pc L st S = some o) : ∃ x, gl L i = some (.ref x) ∧ o = (pc + len, L, .ref x :: st, S) := by
  unfold galoadL at h
  split at h
  · exact ⟨_, by assumption, (Option.some.inj h).symm⟩
  · cases h
theorem gistore_inv {len i : Nat} {o : Nat × gL × List Value × gS} (h : gistore len i pc L st S = some o) : ∃ x r, st = .int x :: r ∧ gokS L i = true ∧ i < L.length ∧ o = (pc + len, gsl L i (some (.int x)), r, S) := by
  unfold gistore at h
  split at h
  · rename_i x r
    cases hc : (gokS L i && Nat.blt i L.length) with
    | false => rw [hc] at h; cases h
    | true =>
      rw [hc] at h
      rw [Bool.and_eq_true] at hc
      exact ⟨x, r, rfl, hc.1, Nat.ble_eq.mp hc.2, (Option.some.inj h).symm⟩
  · cases h
theorem gastoreL_inv {len i : Nat} {o : Nat × gL × List Value × gS} (h : gastoreL len i pc L st S = some o) : ∃ x r, st = .ref x :: r ∧ gokS L i = true ∧ i < L.length ∧ o = (pc + len, gsl L i (some (.ref x)), r, S) := by
  unfold gastoreL at h
  split at h
  · rename_i x r
    cases hc : (gokS L i && Nat.blt i L.length) with
    | false => rw [hc] at h; cases h
    | true =>
      rw [hc] at h
      rw [Bool.and_eq_true] at hc
      exact ⟨x, r, rfl, hc.1, Nat.ble_eq.mp hc.2, (Option.some.inj h).symm⟩
  · cases h
theorem glstore_inv {len i : Nat} {o : Nat × gL × List Value × gS} (h : glstore len i pc L st S = some o) : ∃ x r, st = .long x :: r ∧ gokS L i = true ∧ i + 1 < L.length ∧ o = (pc + len, gsl (gsl L i (some (.long x))) (i + 1) none, r, S) := by
  unfold glstore at h
  split at h
  · rename_i x r
    cases hc : (gokS L i && Nat.blt (i + 1) L.length) with
    | false => rw [hc] at h; cases h
    | true =>
      rw [hc] at h
      rw [Bool.and_eq_true] at hc
      exact ⟨x, r, rfl, hc.1, Nat.ble_eq.mp hc.2, (Option.some.inj h).symm⟩
  · cases h
theorem giinc_inv {len i : Nat} {w : Value} {o : Nat × gL × List Value × gS} (h : giinc len i w pc L st S = some o) : ∃ x n, gl L i = some (.int x) ∧ w = .int n ∧ gokS L i = true ∧ i < L.length ∧ o = (pc + len, gsl L i (some (.int (x + n))), st, S) := by
  unfold giinc at h
  split at h
  · rename_i x n hx
    cases hc : (gokS L i && Nat.blt i L.length) with
    | false => rw [hc] at h; cases h
    | true =>
      rw [hc] at h
      rw [Bool.and_eq_true] at hc
      exact ⟨x, n, hx, rfl, hc.1, Nat.ble_eq.mp hc.2, (Option.some.inj h).symm⟩
  · cases h
theorem gget_inv {ci sl : Nat} {o : Nat × gL × List Value × gS} (h : gget ci sl pc L st S = some o) : ∃ a r fs v, st = .ref a :: r ∧ S.2.2 a = .inr (ci, fs) ∧ fs[sl]? = some v ∧ o = (pc + 3, L, v :: r, S) := by
  unfold gget at h
  split at h
  · rename_i a r
    split at h
    · rename_i c fs hc
      cases he : Nat.beq c ci with
      | false => rw [he] at h; cases h
      | true =>
        rw [he] at h
        have e2 : c = ci := Nat.eq_of_beq_eq_true he
        subst e2
        simp only [cond_true] at h
        split at h
        · rename_i v hv
          exact ⟨a, r, fs, v, rfl, hc, hv, (Option.some.inj h).symm⟩
        · cases h
    · cases h
  · cases h
theorem gput_inv {ci sl : Nat} {o : Nat × gL × List Value × gS} (h : gput ci sl pc L st S = some o) : ∃ v a r fs, st = v :: .ref a :: r ∧ S.2.2 a = .inr (ci, fs) ∧ sl < fs.length ∧ gfit (gty ci sl) v = true ∧ o = (pc + 3, L, r, (S.1, S.2.1, gset S.2.2 a (.inr (ci, fs.set sl v)))) := by
  unfold gput at h
  split at h
  · rename_i v a r
    split at h
    · rename_i c fs hc
      cases he : (Nat.beq c ci && Nat.blt sl fs.length && gfit (gty ci sl) v) with
      | false => rw [he] at h; cases h
      | true =>
        rw [he] at h
        rw [Bool.and_eq_true, Bool.and_eq_true] at he
        have e2 : c = ci := Nat.eq_of_beq_eq_true he.1.1
        subst e2
        exact ⟨v, a, r, fs, rfl, hc, Nat.ble_eq.mp he.1.2, he.2, (Option.some.inj h).symm⟩
    · cases h
  · cases h
theorem gnew_inv {ci : Nat} {o : Nat × gL × List Value × gS} (h : gnew ci pc L st S = some o) : ∃ r, gcl[ci]? = some r ∧ S.1 < 1000000 ∧ o = (pc + 3, L, .ref S.1 :: st, (S.1 + 1, S.2.1 + r.2.2, gset S.2.2 S.1 (.inr (ci, gdv ci r.2.2)))) := by
  unfold gnew at h
  split at h
  · rename_i r hr
    split at h
    · rename_i hn
      exact ⟨r, hr, hn, (Option.some.inj h).symm⟩
    · cases h
  · cases h
theorem gnewq_inv {ci : Nat} {o : Nat × gL × List Value × gS} (h : gnewq ci pc L st S = some o) : ∃ n r q, st = .int n :: r ∧ ¬ n < 0 ∧ n.toNatClampNeg ≤ 1000000 ∧ S.1 < 1000000 ∧ gcl[ci]? = some q ∧ o = (pc + 3, L, .ref S.1 :: r, (S.1 + 1, S.2.1 + n.toNatClampNeg, gset S.2.2 S.1 (.inl (.object q.1, n.toNatClampNeg, .inr (.inr (.inr (.inr (fun _ => none)))))))) := by
  unfold gnewq at h
  split at h
  · rename_i n r
    split at h
    · cases h
    · rename_i hn
      split at h
      · rename_i q hq
        exact ⟨n, r, q, rfl, fun z => hn (Or.inl z), by omega, by omega, hq, (Option.some.inj h).symm⟩
      · cases h
  · cases h
theorem giald_inv {ty : FieldType} {o : Nat × gL × List Value × gS} (h : giald ty pc L st S = some o) : ∃ i a r n f, st = .int i :: .ref a :: r ∧ S.2.2 a = .inl (ty, n, .inl f) ∧ ¬ (i < 0 ∨ n ≤ i.toNatClampNeg) ∧ o = (pc + 1, L, .int (f i.toNatClampNeg) :: r, S) := by
  unfold giald at h
  split at h
  · rename_i i a r
    split at h
    · rename_i t n f ha
      split at h
      · rename_i hc
        obtain ⟨rfl, hc⟩ := hc
        exact ⟨i, a, r, n, f, rfl, ha, hc, (Option.some.inj h).symm⟩
      · cases h
    · cases h
  · cases h
theorem gbald_inv {o : Nat × gL × List Value × gS} (h : gbald pc L st S = some o) : ∃ i a r t n f, st = .int i :: .ref a :: r ∧ (t = .boolean ∨ t = .byte) ∧ S.2.2 a = .inl (t, n, .inl f) ∧ ¬ (i < 0 ∨ n ≤ i.toNatClampNeg) ∧ o = (pc + 1, L, .int (f i.toNatClampNeg) :: r, S) := by
  unfold gbald at h
  split at h
  · rename_i i a r
    split at h
    · rename_i t n f ha
      split at h
      · rename_i hc
        exact ⟨i, a, r, t, n, f, rfl, hc.1, ha, hc.2, (Option.some.inj h).symm⟩
      · cases h
    · cases h
  · cases h
theorem glald_inv {o : Nat × gL × List Value × gS} (h : glald pc L st S = some o) : ∃ i a r n f, st = .int i :: .ref a :: r ∧ S.2.2 a = .inl (.long, n, .inr (.inl f)) ∧ ¬ (i < 0 ∨ n ≤ i.toNatClampNeg) ∧ o = (pc + 1, L, .long (f i.toNatClampNeg) :: r, S) := by
  unfold glald at h
  split at h
  · rename_i i a r
    split at h
    · rename_i t n f ha
      split at h
      · rename_i hc
        obtain ⟨rfl, hc⟩ := hc
        exact ⟨i, a, r, n, f, rfl, ha, hc, (Option.some.inj h).symm⟩
      · cases h
    · cases h
  · cases h
theorem gaald_inv {o : Nat × gL × List Value × gS} (h : gaald pc L st S = some o) : ∃ i a r C n f, st = .int i :: .ref a :: r ∧ S.2.2 a = .inl (.object C, n, .inr (.inr (.inr (.inr f)))) ∧ ¬ (i < 0 ∨ n ≤ i.toNatClampNeg) ∧ o = (pc + 1, L, va_rf (f i.toNatClampNeg) :: r, S) := by
  unfold gaald at h
  split at h
  · rename_i i a r
    split at h
    · rename_i C n f ha
      split at h
      · rename_i hc
        exact ⟨i, a, r, C, n, f, rfl, ha, hc, (Option.some.inj h).symm⟩
      · cases h
    · cases h
  · cases h
theorem glast_inv {o : Nat × gL × List Value × gS} (h : glast pc L st S = some o) : ∃ x i a r n f, st = .long x :: .int i :: .ref a :: r ∧ S.2.2 a = .inl (.long, n, .inr (.inl f)) ∧ ¬ (i < 0 ∨ n ≤ i.toNatClampNeg) ∧ a < 1000000000 ∧ o = (pc + 1, L, r, (S.1, S.2.1, gset S.2.2 a (.inl (.long, n, .inr (.inl (vp_updL f i.toNatClampNeg x)))))) := by
  unfold glast at h
  split at h
  · rename_i x i a r
    split at h
    · rename_i t n f ha
      split at h
      · rename_i hc
        obtain ⟨rfl, hc, h9⟩ := hc
        exact ⟨x, i, a, r, n, f, rfl, ha, hc, h9, (Option.some.inj h).symm⟩
      · cases h
    · cases h
  · cases h
theorem gaast_inv {o : Nat × gL × List Value × gS} (h : gaast pc L st S = some o) : ∃ v i a r C n f ci fs, st = .ref v :: .int i :: .ref a :: r ∧ S.2.2 a = .inl (.object C, n, .inr (.inr (.inr (.inr f)))) ∧ S.2.2 v = .inr (ci, fs) ∧ (gcl[ci]?.map (fun q => q.1)) = some C ∧ ¬ (i < 0 ∨ n ≤ i.toNatClampNeg) ∧ a < 1000000000 ∧ o = (pc + 1, L, r, (S.1, S.2.1, gset S.2.2 a (.inl (.object C, n, .inr (.inr (.inr (.inr (va_up f i.toNatClampNeg (some v))))))))) := by
  unfold gaast at h
  split at h
  · rename_i v i a r
    split at h
    · rename_i C n f ha
      split at h
      · rename_i ci fs hv
        split at h
        · rename_i hc
          exact ⟨v, i, a, r, C, n, f, ci, fs, rfl, ha, hv, hc.1, hc.2.1, hc.2.2, (Option.some.inj h).symm⟩
        · cases h
      · cases h
    · cases h
  · cases h
theorem galen_inv {o : Nat × gL × List Value × gS} (h : galen pc L st S = some o) : ∃ a r t n x, st = .ref a :: r ∧ S.2.2 a = .inl (t, n, x) ∧ o = (pc + 1, L, .int (Int32.ofNat n) :: r, S) := by
  unfold galen at h
  split at h
  · rename_i a r
    split at h
    · rename_i t n x ha
      exact ⟨a, r, t, n, x, rfl, ha, (Option.some.inj h).symm⟩
    · cases h
  · cases h
end GST
theorem giast_inv {ty : FieldType} {ok : Int32 → Prop} [DecidablePred ok] {pc : Nat} {L : gL} {st : List Value} {S : gS} {o : Nat × gL × List Value × gS} (h : giast ty ok pc L st S = some o) : ∃ x i a r n f, st = .int x :: .int i :: .ref a :: r ∧ S.2.2 a = .inl (ty, n, .inl f) ∧ ¬ (i < 0 ∨ n ≤ i.toNatClampNeg) ∧ ok x ∧ a < 1000000000 ∧ o = (pc + 1, L, r, (S.1, S.2.1, gset S.2.2 a (.inl (ty, n, .inl (upd f i.toNatClampNeg x))))) := by
  unfold giast at h
  split at h
  · rename_i x i a r
    split at h
    · rename_i t n f ha
      split at h
      · rename_i hc
        obtain ⟨rfl, hc, hok, h9⟩ := hc
        exact ⟨x, i, a, r, n, f, rfl, ha, hc, hok, h9, (Option.some.inj h).symm⟩
      · cases h
    · cases h
  · cases h
