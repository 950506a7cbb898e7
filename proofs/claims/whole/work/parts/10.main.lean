/-! ===== a run of the small machine is a run of the JVM ===== -/
/-- at a method's end -/
def gK (p : Program) (l : Launch) (e : Env) (R : Room) (s : State) (m : MethodId) (args : Array Value) (below : List Frame) (meth : Method) (c : Code) (Q : State → Prop) (D : va_G) (B : Nat) (ex : Nat → Nat) (H0 : Heap) (n0 u0 : Nat) (row : gR) (v : Option Value) (S' : gS) : Prop :=
  ∀ (pc : Nat) (ls : Array Slot) (H : Heap) (locs : List Loc) (cells slots : Nat), ((v = none ∧ row.2.2.2.1 = none ∧ decode row.2.1 pc = .ok (.return_, 1)) ∨ ∃ x, v = some (.int x) ∧ grok row.2.2.2.1 x ∧ decode row.2.1 pc = .ok (.ireturn, 1)) → gRH D s B ex H0 S' H → (∀ q ∈ locs, B ≤ q.base) → n0 + cells = S'.1 → u0 + slots = S'.2.1 → W p l e R s m args below meth c H locs cells slots Q (F0 m pc ls (v.toList.map (gcv B ex)))
def gBmono (BI : gB) : Prop := ∀ j as S v S', BI j as S v S' → S.1 ≤ S'.1 ∧ S.2.1 ≤ S'.2.1
/-- a call of one of the methods that are told by hand -/
def gWB (l : Launch) (D : va_G) (B : Nat) (ex : Nat → Nat) (H0 : Heap) (BI : gB) : Prop :=
  ∀ (p : Program) (e : Env) (R : Room) (s : State) (m : MethodId) (args : Array Value) (below : List Frame) (meth : Method) (c : Code) (Q : State → Prop) (cc : ByteArray) (nL : Nat) (own nm : String) (n0 u0 pc : Nat) (L : gL) (rest : List Value) (S : gS) (i : Instr) (kd idx j na : Nat) (ax : List Nat) (as : List Value) (v1 : Option Value) (S1 : gS),
    gCx p s m args meth c cc nL own nm D ex → ((kd = 1 ∧ i = .invokevirtual idx) ∨ (kd = 2 ∧ i = .invokespecial idx) ∨ (kd = 0 ∧ i = .invokestatic idx)) → decode cc pc = .ok (i, 3) → gchkB own kd idx 3 (j :: na :: ax) = true → as.length = na → gcat rest ≤ 8 → 10 ≤ R.frames → 400 ≤ R.locals → BI j as S v1 S1 → S1.1 ≤ n0 + R.cells → S1.2.1 ≤ u0 + R.slots →
    gG p l e R s m args below meth c Q nL D B ex H0 n0 u0 (pc + 3) L (v1.toList ++ rest) S1 → gG p l e R s m args below meth c Q nL D B ex H0 n0 u0 pc L (as.reverse ++ rest) S
theorem gcell_mono {i : Instr} {len : Nat} {ax : List Nat} {w : Value} {pc : Nat} {L : gL} {st : List Value} {S : gS} {o : Nat × gL × List Value × gS} (hst : gstep i len ax w pc L st S = some o) : S.1 ≤ o.2.2.2.1 ∧ S.2.1 ≤ o.2.2.2.2.1 := by
  have hid : ∀ {a : Nat × gL × List Value × gS}, a.2.2.2 = S → S.1 ≤ a.2.2.2.1 ∧ S.2.1 ≤ a.2.2.2.2.1 := fun h => by rw [h]; exact ⟨Nat.le_refl _, Nat.le_refl _⟩
  cases i
  case iconst n => rw [gpush_inv hst]; exact hid rfl
  case lconst n => rw [gpush_inv hst]; exact hid rfl
  case bipush n => rw [gpush_inv hst]; exact hid rfl
  case sipush n => rw [gpush_inv hst]; exact hid rfl
  case ldc n => cases ax with
    | nil => cases hst
    | cons a t => rw [gpush_inv (len := 2) hst]; exact hid rfl
  case ldc_w n => cases ax with
    | nil => cases hst
    | cons a t => rw [gpush_inv (len := 3) hst]; exact hid rfl
  case ldc2_w n => cases ax with
    | nil => cases hst
    | cons a t => rw [gpush_inv (len := 3) hst]; exact hid rfl
  case iload_n n => obtain ⟨x, -, rfl⟩ := giload_inv hst; exact hid rfl
  case iload n => obtain ⟨x, -, rfl⟩ := giload_inv hst; exact hid rfl
  case lload_n n => obtain ⟨x, -, rfl⟩ := glload_inv hst; exact hid rfl
  case lload n => obtain ⟨x, -, rfl⟩ := glload_inv hst; exact hid rfl
  case aload_n n => obtain ⟨x, -, rfl⟩ := galoadL_inv hst; exact hid rfl
  case aload n => obtain ⟨x, -, rfl⟩ := galoadL_inv hst; exact hid rfl
  case istore_n n => obtain ⟨x, r, -, -, -, rfl⟩ := gistore_inv hst; exact hid rfl
  case istore n => obtain ⟨x, r, -, -, -, rfl⟩ := gistore_inv hst; exact hid rfl
  case lstore_n n => obtain ⟨x, r, -, -, -, rfl⟩ := glstore_inv hst; exact hid rfl
  case lstore n => obtain ⟨x, r, -, -, -, rfl⟩ := glstore_inv hst; exact hid rfl
  case astore_n n => obtain ⟨x, r, -, -, -, rfl⟩ := gastoreL_inv hst; exact hid rfl
  case astore n => obtain ⟨x, r, -, -, -, rfl⟩ := gastoreL_inv hst; exact hid rfl
  case iinc n z => obtain ⟨x, y, -, -, -, -, rfl⟩ := giinc_inv hst; exact hid rfl
  case getfield idx =>
    simp only [gstep] at hst
    split at hst
    · obtain ⟨a, r, fs, v, -, -, -, rfl⟩ := gget_inv hst; exact hid rfl
    · cases hst
  case putfield idx =>
    simp only [gstep] at hst
    split at hst
    · obtain ⟨v, a, r, fs, -, -, -, -, rfl⟩ := gput_inv hst; exact ⟨Nat.le_refl _, Nat.le_refl _⟩
    · cases hst
  case new idx =>
    simp only [gstep] at hst
    split at hst
    · obtain ⟨q, -, -, rfl⟩ := gnew_inv hst; exact ⟨Nat.le_add_right _ _, Nat.le_add_right _ _⟩
    · cases hst
  case anewarray idx =>
    simp only [gstep] at hst
    split at hst
    · obtain ⟨n, r, q, -, -, -, -, -, rfl⟩ := gnewq_inv hst; exact ⟨Nat.le_add_right _ _, Nat.le_add_right _ _⟩
    · cases hst
  case newarray t =>
    simp only [gstep, gnewa] at hst
    split at hst
    · split at hst
      · cases hst
      · split at hst <;> first | (cases hst; exact ⟨Nat.le_add_right _ _, Nat.le_add_right _ _⟩) | cases hst
    · cases hst
  case iaload => obtain ⟨i, a, r, n, f, -, -, -, rfl⟩ := giald_inv hst; exact hid rfl
  case caload => obtain ⟨i, a, r, n, f, -, -, -, rfl⟩ := giald_inv hst; exact hid rfl
  case baload => obtain ⟨i, a, r, t, n, f, -, -, -, -, rfl⟩ := gbald_inv hst; exact hid rfl
  case laload => obtain ⟨i, a, r, n, f, -, -, -, rfl⟩ := glald_inv hst; exact hid rfl
  case aaload => obtain ⟨i, a, r, C, n, f, -, -, -, rfl⟩ := gaald_inv hst; exact hid rfl
  case iastore => obtain ⟨x, i, a, r, n, f, -, -, -, -, -, rfl⟩ := giast_inv hst; exact ⟨Nat.le_refl _, Nat.le_refl _⟩
  case castore => obtain ⟨x, i, a, r, n, f, -, -, -, -, -, rfl⟩ := giast_inv hst; exact ⟨Nat.le_refl _, Nat.le_refl _⟩
  case bastore => obtain ⟨x, i, a, r, n, f, -, -, -, -, -, rfl⟩ := giast_inv hst; exact ⟨Nat.le_refl _, Nat.le_refl _⟩
  case lastore => obtain ⟨x, i, a, r, n, f, -, -, -, -, rfl⟩ := glast_inv hst; exact ⟨Nat.le_refl _, Nat.le_refl _⟩
  case aastore => obtain ⟨v, i, a, r, C, n, f, ci, fs, -, -, -, -, -, -, rfl⟩ := gaast_inv hst; exact ⟨Nat.le_refl _, Nat.le_refl _⟩
  case arraylength => obtain ⟨a, r, t, n, x, -, -, rfl⟩ := galen_inv hst; exact hid rfl
  all_goals first
    | (obtain ⟨x, y, r, -, rfl⟩ := gii_inv hst; exact hid rfl)
    | (obtain ⟨x, y, r, -, rfl⟩ := gll_inv hst; exact hid rfl)
    | (obtain ⟨x, y, r, -, rfl⟩ := gli_inv hst; exact hid rfl)
    | (have h9 : (none : gO) = some o := hst; cases h9; done)
    | (simp only [gstep] at hst; split at hst <;> first | (cases hst; exact hid rfl) | (cases hst; done) | (split at hst <;> first | (cases hst; exact hid rfl) | (cases hst; done)))
    | (cases hst; exact hid rfl)
theorem gER_mono {MT : List gR} {BI : gB} (hB : gBmono BI) : ∀ (f d k pc : Nat) (L : gL) (st : List Value) (S : gS) (v : Option Value) (S' : gS), gER MT BI f d k pc L st S v S' → S.1 ≤ S'.1 ∧ S.2.1 ≤ S'.2.1 := by
  intro f
  induction f with
  | zero => intro d k pc L st S v S' h; exact h.elim
  | succ f ih =>
    intro d k pc L st S v S' h
    unfold gER at h
    split at h
    · exact h.elim
    · split at h
      · exact h.elim
      · rename_i q hl
        split at h
        · obtain ⟨-, -, rfl, -⟩ := h
          exact ⟨Nat.le_refl _, Nat.le_refl _⟩
        · obtain ⟨x, -, -, rfl, -⟩ := h
          exact ⟨Nat.le_refl _, Nat.le_refl _⟩
        · unfold gcallP at h
          split at h
          · obtain ⟨-, -, v1, S1, h1, h2⟩ := h
            have k2 := ih _ _ _ _ _ _ _ _ h2
            split at h1
            · have k1 := hB _ _ _ _ _ h1.2
              exact ⟨Nat.le_trans k1.1 k2.1, Nat.le_trans k1.2 k2.2⟩
            · obtain ⟨-, cr, -, -, -, h3⟩ := h1
              have k1 := ih _ _ _ _ _ _ _ _ h3
              exact ⟨Nat.le_trans k1.1 k2.1, Nat.le_trans k1.2 k2.2⟩
          · exact h.elim
        · split at h
          · exact h.elim
          · rename_i o hs
            have k1 := gcell_mono hs
            have k2 := ih _ _ _ _ _ _ _ _ h
            exact ⟨Nat.le_trans k1.1 k2.1, Nat.le_trans k1.2 k2.2⟩
/-! a method's entry -/
theorem gpad_len : ∀ (L : gL) (n : Nat), (gpad L n).length = n := by
  intro L n
  induction n generalizing L with
  | zero => cases L <;> rfl
  | succ n ih => cases L <;> simp [gpad, ih]
theorem gl_pad : ∀ (n : Nat) (L : gL) (i : Nat) (v : Value), gl (gpad L n) i = some v → gl L i = some v := by
  intro n
  induction n with
  | zero => intro L i v h; cases L <;> simp [gpad, gl] at h
  | succ n ih =>
    intro L i v h
    cases L with
    | nil =>
      cases i with
      | zero => simp [gpad, gl] at h
      | succ i =>
        simp only [gpad, gl] at h
        have := ih [] i v h
        simp [gl] at this
    | cons a r =>
      cases i with
      | zero => simpa [gpad, gl] using h
      | succ i => exact ih r i v (by simpa [gpad, gl] using h)
theorem lg_sl_len (v : Value) (r : List Value) : (lg_sl (v :: r)).length = (if v.category = 2 then 2 else 1) + (lg_sl r).length := by
  unfold lg_sl
  rw [List.flatMap_cons, List.length_append]
  split <;> rfl
theorem gent_sl {B : Nat} {ex : Nat → Nat} : ∀ (as : List Value), (lg_sl (as.map (gcv B ex))).length = (gent as).length := by
  intro as
  induction as with
  | nil => rfl
  | cons v r ih =>
    rw [List.map_cons, lg_sl_len, ih, gcv_cat]
    cases v <;> simp [gent, Value.category] <;> omega
theorem gent_args {B : Nat} {ex : Nat → Nat} : ∀ (as : List Value) (i j : Nat) (v : Value), gl (gent as) j = some v → (i + j, gcv B ex v) ∈ lv_args i (as.map (gcv B ex)) := by
  intro as
  induction as with
  | nil => intro i j v h; simp [gent, gl] at h
  | cons a r ih =>
    intro i j v h
    have one : ∀ (a : Value), a.category = 1 → gl (some a :: gent r) j = some v → (i + j, gcv B ex v) ∈ lv_args i ((a :: r).map (gcv B ex)) := by
      intro a ha h
      simp only [List.map_cons, lv_args, gcv_cat, ha]
      cases j with
      | zero => simp only [gl] at h; cases h; exact List.mem_cons_self
      | succ j =>
        refine List.mem_cons_of_mem _ ?_
        have := ih (i + 1) j v h
        simpa [Nat.add_assoc, Nat.add_comm 1 j] using this
    have two : ∀ (a : Value), a.category = 2 → gl (some a :: none :: gent r) j = some v → (i + j, gcv B ex v) ∈ lv_args i ((a :: r).map (gcv B ex)) := by
      intro a ha h
      simp only [List.map_cons, lv_args, gcv_cat, ha, if_true]
      match j, h with
      | 0, h => simp only [gl] at h; cases h; exact List.mem_cons_self
      | 1, h => simp [gl] at h
      | j + 2, h =>
        refine List.mem_cons_of_mem _ ?_
        have := ih (i + 2) j v h
        rw [show i + (j + 2) = i + 2 + j by omega]
        exact this
    cases a with
    | long x => exact two _ rfl h
    | double x => exact two _ rfl h
    | int x => exact one _ rfl h
    | float x => exact one _ rfl h
    | null => exact one _ rfl h
    | ref x => exact one _ rfl h
    | retAddr x => exact one _ rfl h
theorem g_entry {B : Nat} {ex : Nat → Nat} {as : List Value} {n : Nat} (h : (gent as).length ≤ n) : gLR B ex ((lg_sl (as.map (gcv B ex)) ++ List.replicate (n - (lg_sl (as.map (gcv B ex))).length) Slot.unset).toArray) n (gpad (gent as) n) := by
  have h1 := lv_entry (as.map (gcv B ex)) (n := n) (by rw [gent_sl]; exact h)
  refine ⟨h1.1, gpad_len _ _, h1.2.1, fun i v hv => ?_⟩
  have h2 := gent_args (B := B) (ex := ex) as 0 i v (gl_pad _ _ _ _ hv)
  rw [Nat.zero_add] at h2
  exact h1.2.2 (i, gcv B ex v) h2
