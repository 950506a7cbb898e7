/-! ===== how the small machine's state stands in the JVM's: cell k lies at B + k; what lies outside (the script, two texts) at ex k ===== -/
def gal (B : Nat) (ex : Nat → Nat) (k : Nat) : Nat := if k < 1000000000 then B + k else ex k
def gcv (B : Nat) (ex : Nat → Nat) : Value → Value
  | .ref k => .ref (gal B ex k)
  | v => v
def gcvA (B : Nat) (ex : Nat → Nat) (a : vp_A) : vp_A := match a with
  | (n, .inr (.inr (.inr (.inr f)))) => (n, .inr (.inr (.inr (.inr (fun j => (f j).map (gal B ex))))))
  | (n, x) => (n, x)
def gat (D : va_G) (U : State) (B : Nat) (ex : Nat → Nat) (H : Heap) (k : Nat) (c : gC) : Prop := match c with
  | .inl (ty, a) => ∃ cA : ClassId, ArrOfT U cA ty ∧ va_RA U cA ty ∧ H[B + k]? = some (vp_cell cA (gcvA B ex a))
  | .inr (ci, fs) => ∃ r : vw_C, gcl[ci]? = some r ∧ fs.length = r.2.2 ∧ t_OB (B + k) (D.1 ci) r.2.2 (D.2 ci) H (vp_V (fs.map (gcv B ex)))
def gext (U : State) (ex : Nat → Nat) (H0 : Heap) (k : Nat) (c : gC) : Prop := match c with
  | .inl (ty, n, .inl f) => ∃ cell : Cell, H0[ex k]? = some cell ∧ U.isArrayOf cell ty ∧ cell.vm ≠ .unknown ∧ cell.slots.size = n ∧ ∀ j : Nat, j < n → cell.slots[j]? = some (.int (f j))
  | _ => False
def gby1 : List Int32 := [115, 104, 101, 108, 102, 32, 32, 32, 115, 116, 111, 114, 101, 32, 32, 32, 114, 97, 103, 32, 32, 32, 32, 32, 108, 111, 111, 107, 32, 32, 32, 32, 119, 104, 101, 110, 32, 32, 32, 32, 97, 110, 100, 32, 32, 32, 32, 32, 107, 105, 110, 100, 32, 32, 32, 32, 115, 116, 97, 116, 101, 32, 32, 32, 115, 101, 97, 115, 111, 110, 32, 32, 110, 111, 119, 32, 32, 32, 32, 32, 98, 97, 115, 101, 32, 32, 32, 32, 103, 105, 118, 101, 114, 32, 32, 32]
def gby2 : List Int32 := [40, 41, 60, 61, 43, 45, 59]
/-- what the start says of the JDK's cells: they lie below B and stay -/
def gJF (U : State) (B : Nat) (ex : Nat → Nat) (H0 : Heap) : Prop := ∃ adV : Nat → Nat, va_Z "java/lang/String" "COMPACT_STRINGS" "Z" (.int 1) (fun q => B ≤ q) U H0 ∧ va_Zq "jdk/internal/util/Preconditions" "SIOOBE_FORMATTER" "Ljava/util/function/BiFunction;" (fun q => B ≤ q) U H0 ∧ vk_S 2 [96, 7] [gby1, gby2] (fun i => ex (2000000001 + i)) adV (fun q => B ≤ q) U H0 ∧ vx_Zq Bundle.tN "UNASSIGNED_STACK" Bundle.steD (fun q => B ≤ q) U H0 ∧ vx_Zq Bundle.tN "SUPPRESSED_SENTINEL" Bundle.listD (fun q => B ≤ q) U H0
theorem gJF_moved {u U : State} {B : Nat} {ex : Nat → Nat} {H0 : Heap} (hvm : u.vm.Alike U.vm) (h : gJF u B ex H0) : gJF U B ex H0 := by
  obtain ⟨adV, h1, h2, h3, h4, h5⟩ := h
  exact ⟨adV, va_Z.moved hvm h1, va_Zq.moved hvm h2, vk_S.moved hvm h3, vx_Zq.moved hvm h4, vx_Zq.moved hvm h5⟩
def gRH (D : va_G) (U : State) (B : Nat) (ex : Nat → Nat) (H0 : Heap) (S : gS) (H : Heap) : Prop :=
  H.size = B + S.1 ∧ S.1 ≤ 1000000 ∧ (H0.size = B ∧ gJF U B ex H0) ∧ (∀ q : Nat, q < B → H[q]? = H0[q]?) ∧ (∀ k, k < 1000000000 → S.2.2 k ≠ gz → k < S.1 ∧ gat D U B ex H k (S.2.2 k)) ∧ (∀ k, 1000000000 ≤ k → S.2.2 k ≠ gz → gext U ex H0 k (S.2.2 k))
def gLR (B : Nat) (ex : Nat → Nat) (ls : Array Slot) (nL : Nat) (L : gL) : Prop := ls.size = nL ∧ L.length = nL ∧ lv_wf ls ∧ ∀ (i : Nat) (v : Value), gl L i = some v → ls[i]? = some (.val (gcv B ex v))
def gnest : Cond → Bool
  | .fieldLinkNest _ _ _ _ _ _ => true
  | .methodLinkNest _ _ _ _ => true
  | .castable _ _ => true
  | .declares _ => true
  | _ => false
def gNW : List Cond := lw_tbl.filter gnest
def gGW : List Cond := lw_tbl.filter goodWord
def gAO : List String := [RX7, RX3, RX5]
def gtxt1 : String := "shelf   store   rag     look    when    and     kind    state   season  now     base    giver   "
def gtxt2 : String := "()<=+-;"
def gtxt3 : String := "no such thing, or nothing such to look at"
def gKN (D : va_G) (ex : Nat → Nat) (U : State) : Prop := va_K D gcl [] U ∧ (∀ w ∈ gNW, va_Nw w U) ∧ (∀ C ∈ gAO, va_AO C U) ∧ vk_R RX4 64 gtxt1 (ex 2000000001) U ∧ vk_R RX4 52 gtxt2 (ex 2000000002) U ∧ vk_R RX9 221 gtxt3 (ex 2000000003) U
theorem gNW_warm {w : Cond} (hw : gnest w = true) {s U : State} (hW : s.WarmedH U.vm) (h : va_Nw w s) : va_Nw w U := by
  cases w <;> first | exact va_Nw.warmF hW h | exact va_Nw.warmM hW h | exact va_Nw.warmC hW h | exact va_Nw.warmD hW h | (simp [gnest] at hw)
theorem gKN_warm {D : va_G} {ex : Nat → Nat} {s U : State} (hW : s.WarmedH U.vm) (h : gKN D ex s) : gKN D ex U :=
  ⟨va_K.moved hW.alike h.1, fun w hw => gNW_warm (List.mem_filter.mp hw).2 hW (h.2.1 w hw), fun C hC => va_AO.moved hW.alike (h.2.2.1 C hC), vk_R.warm hW h.2.2.2.1, vk_R.warm hW h.2.2.2.2.1, vk_R.warm hW h.2.2.2.2.2⟩
theorem gat_moved {D : va_G} {u U : State} {B : Nat} {ex : Nat → Nat} {H : Heap} {k : Nat} {c : gC} (hvm : u.vm.Alike U.vm) (h : gat D u B ex H k c) : gat D U B ex H k c := by
  rcases c with ⟨ty, a⟩ | ⟨ci, fs⟩
  · obtain ⟨cA, h1, h2, h3⟩ := h
    exact ⟨cA, arrOfT_moved hvm h1, h2.moved hvm, h3⟩
  · exact h
theorem gext_moved {u U : State} {ex : Nat → Nat} {H : Heap} {k : Nat} {c : gC} (hvm : u.vm.Alike U.vm) (h : gext u ex H k c) : gext U ex H k c := by
  rcases c with ⟨ty, n, f | f⟩ | ⟨ci, fs⟩
  · obtain ⟨cell, h1, h2, h3⟩ := h
    exact ⟨cell, h1, State.isArrayOf_alike hvm h2, h3⟩
  · exact h.elim
  · exact h.elim
theorem gRH_moved {D : va_G} {u U : State} {B : Nat} {ex : Nat → Nat} {H0 H : Heap} {S : gS} (hvm : u.vm.Alike U.vm) (h : gRH D u B ex H0 S H) : gRH D U B ex H0 S H :=
  ⟨h.1, h.2.1, ⟨h.2.2.1.1, gJF_moved hvm h.2.2.1.2⟩, h.2.2.2.1, fun k hk hz => ⟨(h.2.2.2.2.1 k hk hz).1, gat_moved hvm (h.2.2.2.2.1 k hk hz).2⟩, fun k hk hz => gext_moved hvm (h.2.2.2.2.2 k hk hz)⟩
theorem gcv_cat (B : Nat) (ex : Nat → Nat) (v : Value) : (gcv B ex v).category = v.category := by cases v <;> rfl
theorem gat_kept {D : va_G} {U : State} {B : Nat} {ex : Nat → Nat} {H H1 : Heap} {k : Nat} {c : gC} (h : gat D U B ex H k c) (hq : H1[B + k]? = H[B + k]?) : gat D U B ex H1 k c := by
  rcases c with ⟨ty, a⟩ | ⟨ci, fs⟩
  · obtain ⟨cA, h1, h2, h3⟩ := h
    exact ⟨cA, h1, h2, hq.trans h3⟩
  · obtain ⟨r, h1, h2, h3⟩ := h
    exact ⟨r, h1, h2, h3.kept hq⟩
/-- a cell k of the world is changed -/
theorem gRH_set {D : va_G} {U : State} {B : Nat} {ex : Nat → Nat} {H0 H H1 : Heap} {S : gS} {k : Nat} {c : gC} (h : gRH D U B ex H0 S H) (hk : k < 1000000000) (hz : S.2.2 k ≠ gz) (hc : gat D U B ex H1 k c) (z : H1.size = H.size) (oq : ∀ q : Nat, q ≠ B + k → H1[q]? = H[q]?) : gRH D U B ex H0 (S.1, S.2.1, gset S.2.2 k c) H1 := by
  obtain ⟨h1, h2, h3, h4, h5, h6⟩ := h
  refine ⟨by rw [z]; exact h1, h2, h3, fun q hq => ?_, fun j hj hjz => ?_, fun j hj hjz => ?_⟩
  · rw [oq q (by omega)]
    exact h4 q hq
  · by_cases e : j = k
    · subst e
      refine ⟨(h5 j hj hz).1, ?_⟩
      simp only [gset, if_true]
      exact hc
    · have e2 : gset S.2.2 k c j = S.2.2 j := by simp [gset, e]
      dsimp only at hjz ⊢
      rw [e2] at hjz ⊢
      exact ⟨(h5 j hj hjz).1, gat_kept (h5 j hj hjz).2 (oq (B + j) (by omega))⟩
  · have e2 : gset S.2.2 k c j = S.2.2 j := by
      have : j ≠ k := by omega
      simp [gset, this]
    dsimp only at hjz ⊢
    rw [e2] at hjz ⊢
    exact h6 j hj hjz
/-- a cell more -/
theorem gRH_push {D : va_G} {U : State} {B : Nat} {ex : Nat → Nat} {H0 H H1 : Heap} {S : gS} {c : gC} (n : Nat) (h : gRH D U B ex H0 S H) (hn : S.1 < 1000000) (hc : gat D U B ex H1 S.1 c) (z : H1.size = H.size + 1) (oq : ∀ q : Nat, q < H.size → H1[q]? = H[q]?) : gRH D U B ex H0 (S.1 + 1, n, gset S.2.2 S.1 c) H1 := by
  obtain ⟨h1, h2, h3, h4, h5, h6⟩ := h
  refine ⟨by rw [z, h1]; rfl, by dsimp only; omega, h3, fun q hq => ?_, fun j hj hjz => ?_, fun j hj hjz => ?_⟩
  · rw [oq q (by omega)]
    exact h4 q hq
  · by_cases e : j = S.1
    · subst e
      refine ⟨by dsimp only; omega, ?_⟩
      simp only [gset, if_true]
      exact hc
    · have e2 : gset S.2.2 S.1 c j = S.2.2 j := by simp [gset, e]
      dsimp only at hjz ⊢
      rw [e2] at hjz ⊢
      have := (h5 j hj hjz).1
      exact ⟨by omega, gat_kept (h5 j hj hjz).2 (oq (B + j) (by omega))⟩
  · have e2 : gset S.2.2 S.1 c j = S.2.2 j := by
      have : j ≠ S.1 := by omega
      simp [gset, this]
    dsimp only at hjz ⊢
    rw [e2] at hjz ⊢
    exact h6 j hj hjz
/-! locals -/
def gpl (B : Nat) (ex : Nat → Nat) : Nat → gL → List (Nat × Value)
  | _, [] => []
  | i, none :: r => gpl B ex (i + 1) r
  | i, some v :: r => (i, gcv B ex v) :: gpl B ex (i + 1) r
theorem mem_gpl {B : Nat} {ex : Nat → Nat} : ∀ (L : gL) (i j : Nat) (u : Value), (j, u) ∈ gpl B ex i L ↔ ∃ t v, j = i + t ∧ gl L t = some v ∧ u = gcv B ex v := by
  intro L
  induction L with
  | nil => intro i j u; simp [gpl, gl]
  | cons a r ih =>
    intro i j u
    cases a with
    | none =>
      simp only [gpl, ih]
      constructor
      · rintro ⟨t, v, h1, h2, h3⟩
        exact ⟨t + 1, v, by omega, h2, h3⟩
      · rintro ⟨t, v, h1, h2, h3⟩
        cases t with
        | zero => simp [gl] at h2
        | succ t => exact ⟨t, v, by omega, h2, h3⟩
    | some w =>
      simp only [gpl, List.mem_cons, ih]
      constructor
      · rintro (h | ⟨t, v, h1, h2, h3⟩)
        · cases h
          exact ⟨0, w, rfl, rfl, rfl⟩
        · exact ⟨t + 1, v, by omega, h2, h3⟩
      · rintro ⟨t, v, h1, h2, h3⟩
        cases t with
        | zero =>
          simp only [gl] at h2
          cases h2
          left
          rw [h1, h3]; rfl
        | succ t => exact Or.inr ⟨t, v, by omega, h2, h3⟩
theorem gLR_has {B : Nat} {ex : Nat → Nat} {ls : Array Slot} {nL : Nat} {L : gL} (h : gLR B ex ls nL L) : lv_has ls nL (gpl B ex 0 L) := by
  refine ⟨h.1, h.2.2.1, fun q hq => ?_⟩
  obtain ⟨j, u⟩ := q
  obtain ⟨t, v, h1, h2, h3⟩ := (mem_gpl L 0 j u).mp hq
  have e : j = t := by omega
  subst e
  dsimp only
  rw [h3]
  exact h.2.2.2 j v h2
theorem gsl_len (L : gL) : ∀ (i : Nat) (v : Option Value), (gsl L i v).length = L.length := by
  induction L with
  | nil => intro i v; rfl
  | cons a r ih =>
    intro i v
    cases i with
    | zero => rfl
    | succ i => simp [gsl, ih]
theorem gl_gsl (L : gL) : ∀ (i j : Nat) (v : Option Value), i < L.length → gl (gsl L i v) j = if j = i then v else gl L j := by
  induction L with
  | nil => intro i j v h; simp at h
  | cons a r ih =>
    intro i j v h
    cases i with
    | zero =>
      cases j with
      | zero => simp [gsl, gl]
      | succ j => simp [gsl, gl]
    | succ i =>
      cases j with
      | zero => simp [gsl, gl]
      | succ j =>
        have := ih i j v (by simpa using h)
        simp only [gsl, gl, this]
        by_cases e : j = i
        · simp [e]
        · simp [e]
theorem gwide_cat {v : Value} (h : gwide (some v) = false) : v.category = 1 := by cases v <;> first | rfl | (simp [gwide] at h)
theorem gokS_prev {L : gL} {i j : Nat} {v : Value} (h : gokS L i = true) (hj : j + 1 = i) (hv : gl L j = some v) : v.category = 1 := by
  subst hj
  simp only [gokS, hv] at h
  exact gwide_cat (by simpa using h)
theorem gLR_store1 {B : Nat} {ex : Nat → Nat} {ls ls' : Array Slot} {nL : Nat} {L : gL} {i : Nat} {v : Value} (h : gLR B ex ls nL L) (hi : i < L.length) (hok : gokS L i = true)
    (hl : lv_has ls' nL ((i, gcv B ex v) :: (gpl B ex 0 L).filter (fun q => !(q.1 == i) && !(q.1 + 1 == i && q.2.category == 2)))) : gLR B ex ls' nL (gsl L i (some v)) := by
  refine ⟨hl.1, by rw [gsl_len]; exact h.2.1, hl.2.1, fun j u hj => ?_⟩
  rw [gl_gsl L i j _ hi] at hj
  by_cases e : j = i
  · subst e
    simp only [if_true] at hj
    cases hj
    exact hl.2.2 (j, _) List.mem_cons_self
  · simp only [e, if_false] at hj
    refine hl.2.2 (j, gcv B ex u) (List.mem_cons_of_mem _ (List.mem_filter.mpr ⟨(mem_gpl L 0 j _).mpr ⟨j, u, by omega, hj, rfl⟩, ?_⟩))
    by_cases e2 : j + 1 = i
    · have := gokS_prev hok e2 hj
      simp [e, gcv_cat, this]
    · simp [e, e2]
theorem gLR_store2 {B : Nat} {ex : Nat → Nat} {ls ls' : Array Slot} {nL : Nat} {L : gL} {i : Nat} {v : Value} (h : gLR B ex ls nL L) (hi : i + 1 < L.length) (hok : gokS L i = true)
    (hl : lv_has ls' nL ((i, gcv B ex v) :: (gpl B ex 0 L).filter (fun q => !(q.1 == i) && (!(q.1 == i + 1) && !(q.1 + 1 == i && q.2.category == 2))))) : gLR B ex ls' nL (gsl (gsl L i (some v)) (i + 1) none) := by
  refine ⟨hl.1, by rw [gsl_len, gsl_len]; exact h.2.1, hl.2.1, fun j u hj => ?_⟩
  rw [gl_gsl _ (i + 1) j _ (by rw [gsl_len]; exact hi)] at hj
  by_cases e1 : j = i + 1
  · simp [e1] at hj
  · simp only [e1, if_false] at hj
    rw [gl_gsl L i j _ (by omega)] at hj
    by_cases e : j = i
    · subst e
      simp only [if_true] at hj
      cases hj
      exact hl.2.2 (j, _) List.mem_cons_self
    · simp only [e, if_false] at hj
      refine hl.2.2 (j, gcv B ex u) (List.mem_cons_of_mem _ (List.mem_filter.mpr ⟨(mem_gpl L 0 j _).mpr ⟨j, u, by omega, hj, rfl⟩, ?_⟩))
      by_cases e2 : j + 1 = i
      · have := gokS_prev hok e2 hj
        simp [e, e1, gcv_cat, this]
      · simp [e, e1, e2]
