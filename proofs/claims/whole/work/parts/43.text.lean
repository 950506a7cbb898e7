-- deps: 37 38 39
/-! ===== a text: tokens, and a small machine that reads them ===== -/
abbrev kTok : Type := Nat × Nat × Nat
abbrev kWt : Type := Nat × Nat × Nat
abbrev kLs : Type := List (Nat × List Nat)
/-- tag, waits, tokens, codes of the line, lines, way or fault -/
abbrev kSt : Type := Nat × List kWt × List kTok × List Nat × kLs × Nat
def khd (ts : List kTok) : kTok := ts.headD (301, 0, 0)
def kF (f : Nat) : kSt := (3, [], [], [], [], f)
def kfl (k : Nat) (ts : List kTok) : kSt := kF (k + 16 * (khd ts).2.2)
abbrev kIsPart (c : Nat) : Prop := c = 40 ∨ c = 300 ∨ (206 ≤ c ∧ c < 212)
def kcode (t : kTok) : Nat := if t.1 = 300 then t.2.1 else 10000 + (t.1 - 206)
def kA (stk : List kWt) (ts : List kTok) (cs : List Nat) (ls : kLs) (wy : Nat) : kSt := (0, stk, ts, cs, ls, wy)
def kB (stk : List kWt) (ts : List kTok) (cs : List Nat) (ls : kLs) (wy : Nat) : kSt := (1, stk, ts, cs, ls, wy)
def kC (stk : List kWt) (ts : List kTok) (cs : List Nat) (ls : kLs) (wy : Nat) : kSt := (4, stk, ts, cs, ls, wy)
def kD (stk : List kWt) (ts : List kTok) (cs : List Nat) (ls : kLs) (wy : Nat) : kSt := (5, stk, ts, cs, ls, wy)
def kX (ts : List kTok) (cs : List Nat) (ls : kLs) (wy : Nat) : kSt := (2, [], ts, cs, ls, wy)
def kT (ts : List kTok) (ls : kLs) : kSt := (6, [], ts, [], ls, 0)
def kE (ls : kLs) : kSt := (7, [], [], [], ls, 0)
def kstep : kSt → kSt
  | (0, stk, ts, cs, ls, wy) => if ¬ kIsPart (khd ts).1 then kfl 1 ts else if stk.length = 6 then kfl 5 ts else if (khd ts).1 = 40 then kA ((0, 0, 0) :: stk) ts.tail cs ls wy else kB stk ts.tail (cs ++ [kcode (khd ts)]) ls wy
  | (1, (s, c, a) :: stk, ts, cs, ls, wy) => if s ≠ 0 then kB ((0, c, a) :: stk) ts (cs ++ [s]) ls wy else if (khd ts).1 = 43 ∨ (khd ts).1 = 45 then kA ((if (khd ts).1 = 43 then 10010 else 10011, c, a) :: stk) ts.tail cs ls wy else kC ((s, c, a) :: stk) ts cs ls wy
  | (4, (s, c, a) :: stk, ts, cs, ls, wy) => if c ≠ 0 then kD ((s, 0, a) :: stk) ts (cs ++ [c]) ls wy else if (khd ts).1 = 60 ∨ (khd ts).1 = 61 then kA ((s, if (khd ts).1 = 60 then 10012 else 10013, a) :: stk) ts.tail cs ls wy else kD ((s, c, a) :: stk) ts cs ls wy
  | (5, (s, c, a) :: stk, ts, cs, ls, wy) => if a ≠ 0 then kD ((s, c, 0) :: stk) ts (cs ++ [10014]) ls wy else if (khd ts).1 = 205 then kA ((s, c, 10014) :: stk) ts.tail cs ls wy else if stk = [] then kX ts cs ls wy else if (khd ts).1 = 41 then kB stk ts.tail cs ls wy else kfl 1 ts
  | (2, _, ts, cs, ls, wy) => if (khd ts).1 = 59 then kT ts.tail (ls ++ [(wy, cs)]) else kfl 1 ts
  | (6, _, ts, _, ls, _) => if (khd ts).1 = 301 then kE ls else if ¬ (200 ≤ (khd ts).1 ∧ (khd ts).1 < 204) then kfl 1 ts else if ls.length = 16 then kfl 5 ts else if ¬ (khd ts.tail).1 = 204 then kfl 1 ts.tail else kA [(0, 0, 0)] ts.tail.tail [] ls ((khd ts).1 - 199)
  | s => s
def kit : Nat → kSt → kSt
  | 0, s => s
  | n + 1, s => kit n (kstep s)
def kR (s t : kSt) : Prop := ∃ n, kit n s = t
theorem kR_rf (s : kSt) : kR s s := ⟨0, rfl⟩
theorem kR_st {s s' t : kSt} (h : kstep s = s') (h2 : kR s' t) : kR s t := by
  obtain ⟨n, hn⟩ := h2
  exact ⟨n + 1, by subst h; exact hn⟩
theorem kit_add : ∀ (n m : Nat) (s : kSt), kit (n + m) s = kit m (kit n s) := by
  intro n
  induction n with
  | zero => intro m s; rw [Nat.zero_add]; rfl
  | succ n ih => intro m s; rw [Nat.succ_add]; exact ih m (kstep s)
theorem kR_tr {s t v : kSt} (h1 : kR s t) (h2 : kR t v) : kR s v := by
  obtain ⟨n, hn⟩ := h1
  obtain ⟨m, hm⟩ := h2
  exact ⟨n + m, by rw [kit_add, hn, hm]⟩
theorem kR_end {s t t' : kSt} (h1 : kR s t) (h2 : kstep t = t') : kR s t' := kR_tr h1 (kR_st h2 (kR_rf _))
theorem kit_fin {t : kSt} (h : kstep t = t) : ∀ n, kit n t = t := by
  intro n
  induction n with
  | zero => rfl
  | succ n ih => show kit n (kstep t) = t; rw [h, ih]
theorem kR_det {s t1 t2 : kSt} (h1 : kR s t1) (h2 : kR s t2) (f1 : kstep t1 = t1) (f2 : kstep t2 = t2) : t1 = t2 := by
  obtain ⟨n, hn⟩ := h1
  obtain ⟨m, hm⟩ := h2
  have e1 : kit (n + m) s = t1 := by rw [kit_add, hn, kit_fin f1]
  have e2 : kit (m + n) s = t2 := by rw [kit_add, hm, kit_fin f2]
  rw [← e1, ← e2, Nat.add_comm]
theorem kF_fin (f : Nat) : kstep (kF f) = kF f := rfl
theorem kE_fin (ls : kLs) : kstep (kE ls) = kE ls := rfl
/-! what holds of every state -/
def kw : Nat → List Nat → Option Nat
  | n, [] => some n
  | n, e :: p => if e < 10006 ∧ n < 16 then kw (n + 1) p else if 10010 ≤ e ∧ e < 10015 ∧ 2 ≤ n then kw (n - 1) p else none
theorem kw_gwf : ∀ (p : List Nat) (n : Nat), kw n p = some 1 → gwf n p := by
  intro p
  induction p with
  | nil => intro n h; simpa [kw, gwf] using h
  | cons e p ih =>
    intro n h
    simp only [kw] at h
    split at h
    · rename_i hc; exact Or.inl ⟨hc.1, hc.2, ih _ h⟩
    · split at h
      · rename_i hc; exact Or.inr ⟨hc.1, hc.2.1, hc.2.2, ih _ h⟩
      · cases h
theorem kw_app : ∀ (p : List Nat) (n m : Nat) (p2 : List Nat), kw n p = some m → kw n (p ++ p2) = kw m p2 := by
  intro p
  induction p with
  | nil => intro n m p2 h; cases h; rfl
  | cons e p ih =>
    intro n m p2 h
    simp only [kw, List.cons_append] at h ⊢
    split at h
    · rename_i hc; rw [if_pos hc]; exact ih _ _ _ h
    · rename_i hc
      rw [if_neg hc]
      split at h
      · rename_i hc2; rw [if_pos hc2]; exact ih _ _ _ h
      · cases h
theorem kw_push {p : List Nat} {n m e : Nat} (h : kw n p = some m) (he : e < 10006) (hm : m < 16) : kw n (p ++ [e]) = some (m + 1) := by
  rw [kw_app p n m [e] h]
  simp only [kw]
  rw [if_pos ⟨he, hm⟩]
theorem kw_op {p : List Nat} {n m e : Nat} (h : kw n p = some m) (he : 10010 ≤ e ∧ e < 10015) (hm : 2 ≤ m) : kw n (p ++ [e]) = some (m - 1) := by
  rw [kw_app p n m [e] h]
  simp only [kw]
  rw [if_neg (by omega), if_pos ⟨he.1, he.2, hm⟩]
def kwc (t : kWt) : Nat := (if t.1 = 0 then 0 else 1) + (if t.2.1 = 0 then 0 else 1) + (if t.2.2 = 0 then 0 else 1)
def kws : List kWt → Nat
  | [] => 0
  | t :: r => kwc t + kws r
def kwok (t : kWt) : Prop := (t.1 = 0 ∨ t.1 = 10010 ∨ t.1 = 10011) ∧ (t.2.1 = 0 ∨ t.2.1 = 10012 ∨ t.2.1 = 10013) ∧ (t.2.2 = 0 ∨ t.2.2 = 10014)
def klen : kLs → Nat
  | [] => 0
  | l :: r => l.2.length + klen r
theorem klen_app (l1 l2 : kLs) : klen (l1 ++ l2) = klen l1 + klen l2 := by
  induction l1 with
  | nil => simp [klen]
  | cons a t ih => simp only [List.cons_append, klen, ih]; omega
def kTsok (ts : List kTok) : Prop := ts ≠ [] ∧ (∀ t ∈ ts, t.1 = 300 → t.2.1 < 10000) ∧ ∀ (h : ts ≠ []), (ts.getLast h).1 = 301 ∧ ∀ t ∈ ts.dropLast, t.1 ≠ 301
def kLsok (ls : kLs) : Prop := ls.length ≤ 16 ∧ ∀ l ∈ ls, 1 ≤ l.1 ∧ l.1 ≤ 4 ∧ kw 0 l.2 = some 1
theorem kws_le : ∀ stk : List kWt, kws stk ≤ 3 * stk.length := by
  intro stk
  induction stk with
  | nil => exact Nat.le_refl _
  | cons t r ih =>
    have : kwc t ≤ 3 := by unfold kwc; repeat (first | omega | split)
    simp only [kws, List.length_cons]; omega
/-- the ledger of a state; K bounds codes and tokens -/
def kinv (K : Nat) : kSt → Prop
  | (0, stk, ts, cs, ls, wy) => kLsok ls ∧ ls.length < 16 ∧ 1 ≤ wy ∧ wy ≤ 4 ∧ stk ≠ [] ∧ stk.length ≤ 6 ∧ (∀ t ∈ stk, kwok t) ∧ kw 0 cs = some (kws stk) ∧ kTsok ts ∧ klen ls + ls.length + 1 + cs.length + kws stk + ts.length ≤ K
  | (1, stk, ts, cs, ls, wy) => kLsok ls ∧ ls.length < 16 ∧ 1 ≤ wy ∧ wy ≤ 4 ∧ stk ≠ [] ∧ stk.length ≤ 5 ∧ (∀ t ∈ stk, kwok t) ∧ kw 0 cs = some (kws stk + 1) ∧ kTsok ts ∧ klen ls + ls.length + 1 + cs.length + kws stk + ts.length ≤ K
  | (4, stk, ts, cs, ls, wy) => kLsok ls ∧ ls.length < 16 ∧ 1 ≤ wy ∧ wy ≤ 4 ∧ (∃ c a r, stk = (0, c, a) :: r) ∧ stk.length ≤ 5 ∧ (∀ t ∈ stk, kwok t) ∧ kw 0 cs = some (kws stk + 1) ∧ kTsok ts ∧ klen ls + ls.length + 1 + cs.length + kws stk + ts.length ≤ K
  | (5, stk, ts, cs, ls, wy) => kLsok ls ∧ ls.length < 16 ∧ 1 ≤ wy ∧ wy ≤ 4 ∧ (∃ a r, stk = (0, 0, a) :: r) ∧ stk.length ≤ 5 ∧ (∀ t ∈ stk, kwok t) ∧ kw 0 cs = some (kws stk + 1) ∧ kTsok ts ∧ klen ls + ls.length + 1 + cs.length + kws stk + ts.length ≤ K
  | (2, _, ts, cs, ls, wy) => kLsok ls ∧ ls.length < 16 ∧ 1 ≤ wy ∧ wy ≤ 4 ∧ kw 0 cs = some 1 ∧ kTsok ts ∧ klen ls + ls.length + 1 + cs.length + ts.length ≤ K
  | (6, _, ts, _, ls, _) => kLsok ls ∧ kTsok ts ∧ klen ls + ls.length + ts.length ≤ K
  | (7, _, _, _, ls, _) => kLsok ls
  | _ => True
theorem kTsok_tl {ts : List kTok} (h : kTsok ts) (hh : (khd ts).1 ≠ 301) : kTsok ts.tail := by
  obtain ⟨h1, h2, h3⟩ := h
  cases ts with
  | nil => exact absurd rfl h1
  | cons t r =>
    cases r with
    | nil =>
      have := (h3 (by simp)).1
      exact absurd this hh
    | cons t2 r2 =>
      refine ⟨by simp, fun x hx => h2 x (List.mem_cons_of_mem _ hx), fun _ => ?_⟩
      obtain ⟨q1, q2⟩ := h3 (by simp)
      refine ⟨by simpa using q1, fun x hx => q2 x ?_⟩
      simp only [List.dropLast_cons₂, List.mem_cons]
      exact Or.inr hx
theorem klen_tl {ts : List kTok} (h : kTsok ts) : ts.length = ts.tail.length + 1 := by
  cases ts with
  | nil => exact absurd rfl h.1
  | cons t r => rfl
theorem khd_mem {ts : List kTok} (h : kTsok ts) : khd ts ∈ ts := by
  cases ts with
  | nil => exact absurd rfl h.1
  | cons t r => simp [khd]
theorem kcode_lt {ts : List kTok} (h : kTsok ts) (hp : kIsPart (khd ts).1) (h40 : ¬ (khd ts).1 = 40) : kcode (khd ts) < 10006 := by
  unfold kcode
  split
  · rename_i e; have := h.2.1 _ (khd_mem h) e; omega
  · rename_i e
    rcases hp with z | z | z
    · exact absurd z h40
    · exact absurd z e
    · omega
theorem kinv_st {K : Nat} {s : kSt} (h : kinv K s) : kinv K (kstep s) := by
  obtain ⟨tag, stk, ts, cs, ls, wy⟩ := s
  match tag with
  | 0 =>
    obtain ⟨i1, i2, i3, i4, i5, i6, i7, i8, i9, i10⟩ := h
    have hws := kws_le stk
    have hl := klen_tl i9
    show kinv K (if _ then _ else _)
    split
    · trivial
    rename_i hp
    have hp := Decidable.of_not_not hp
    have hne : (khd ts).1 ≠ 301 := by unfold kIsPart at hp; omega
    split
    · trivial
    rename_i h6
    split
    · exact ⟨i1, i2, i3, i4, by simp, by simp; omega, fun t ht => by
        simp only [List.mem_cons] at ht
        rcases ht with rfl | ht
        · exact ⟨Or.inl rfl, Or.inl rfl, Or.inl rfl⟩
        · exact i7 t ht, by rw [i8]; simp [kws, kwc], kTsok_tl i9 hne, by simp [kws, kwc]; omega⟩
    · rename_i h40
      exact ⟨i1, i2, i3, i4, i5, by omega, i7, kw_push i8 (kcode_lt i9 hp h40) (by omega), kTsok_tl i9 hne, by simp; omega⟩
  | 1 =>
    obtain ⟨i1, i2, i3, i4, i5, i6, i7, i8, i9, i10⟩ := h
    cases stk with
    | nil => exact absurd rfl i5
    | cons t r =>
      obtain ⟨s, c, a⟩ := t
      have ht := i7 (s, c, a) (by simp)
      have hr : ∀ t ∈ r, kwok t := fun t ht => i7 t (List.mem_cons_of_mem _ ht)
      have hl := klen_tl i9
      show kinv K (if _ then _ else _)
      split
      · rename_i hs
        have e1 : kws ((s, c, a) :: r) = kws ((0, c, a) :: r) + 1 := by simp only [kws, kwc, hs, eq_self, if_true, if_false]; omega
        refine ⟨i1, i2, i3, i4, by simp, i6, fun t ht2 => ?_, ?_, i9, ?_⟩
        · simp only [List.mem_cons] at ht2
          rcases ht2 with rfl | ht2
          · exact ⟨Or.inl rfl, ht.2⟩
          · exact hr t ht2
        · have := kw_op (e := s) i8 (by rcases ht.1 with z | z | z <;> simp only at z <;> omega) (by omega)
          rw [this, e1]; rfl
        · simp only [List.length_append, List.length_cons, List.length_nil]; rw [e1] at i10; omega
      · rename_i hs
        have hs : s = 0 := Decidable.of_not_not hs
        subst hs
        split
        · rename_i hq
          have hne : (khd ts).1 ≠ 301 := by omega
          have e1 : ∀ x, x ≠ 0 → kws ((x, c, a) :: r) = kws ((0, c, a) :: r) + 1 := by intro x hx; simp only [kws, kwc, hx, eq_self, if_true, if_false]; omega
          have hx : (if (khd ts).1 = 43 then 10010 else 10011) ≠ 0 := by split <;> omega
          refine ⟨i1, i2, i3, i4, by simp, by simp at i6 ⊢; omega, fun t ht2 => ?_, ?_, kTsok_tl i9 hne, ?_⟩
          · simp only [List.mem_cons] at ht2
            rcases ht2 with rfl | ht2
            · exact ⟨by show _ = _ ∨ _; split <;> simp, ht.2⟩
            · exact hr t ht2
          · rw [e1 _ hx, i8]
          · rw [e1 _ hx]; omega
        · exact ⟨i1, i2, i3, i4, ⟨c, a, r, rfl⟩, i6, i7, i8, i9, i10⟩
  | 4 =>
    obtain ⟨i1, i2, i3, i4, ⟨c, a, r, rfl⟩, i6, i7, i8, i9, i10⟩ := h
    have ht := i7 (0, c, a) (by simp)
    have hr : ∀ t ∈ r, kwok t := fun t ht => i7 t (List.mem_cons_of_mem _ ht)
    have hl := klen_tl i9
    show kinv K (if _ then _ else _)
    split
    · rename_i hs
      have e1 : kws ((0, c, a) :: r) = kws ((0, 0, a) :: r) + 1 := by simp only [kws, kwc, hs, eq_self, if_true, if_false]; omega
      refine ⟨i1, i2, i3, i4, ⟨a, r, rfl⟩, i6, fun t ht2 => ?_, ?_, i9, ?_⟩
      · simp only [List.mem_cons] at ht2
        rcases ht2 with rfl | ht2
        · exact ⟨Or.inl rfl, Or.inl rfl, ht.2.2⟩
        · exact hr t ht2
      · have := kw_op (e := c) i8 (by rcases ht.2.1 with z | z | z <;> simp only at z <;> omega) (by omega)
        rw [this, e1]; rfl
      · simp only [List.length_append, List.length_cons, List.length_nil]; rw [e1] at i10; omega
    · rename_i hs
      have hs : c = 0 := Decidable.of_not_not hs
      subst hs
      split
      · rename_i hq
        have hne : (khd ts).1 ≠ 301 := by omega
        have e1 : ∀ x, x ≠ 0 → kws ((0, x, a) :: r) = kws ((0, 0, a) :: r) + 1 := by intro x hx; simp only [kws, kwc, hx, eq_self, if_true, if_false]; omega
        have hx : (if (khd ts).1 = 60 then 10012 else 10013) ≠ 0 := by split <;> omega
        refine ⟨i1, i2, i3, i4, by simp, by simp at i6 ⊢; omega, fun t ht2 => ?_, ?_, kTsok_tl i9 hne, ?_⟩
        · simp only [List.mem_cons] at ht2
          rcases ht2 with rfl | ht2
          · exact ⟨Or.inl rfl, by show _ = _ ∨ _; split <;> simp, ht.2.2⟩
          · exact hr t ht2
        · rw [e1 _ hx, i8]
        · rw [e1 _ hx]; omega
      · exact ⟨i1, i2, i3, i4, ⟨a, r, rfl⟩, i6, i7, i8, i9, i10⟩
  | 5 =>
    obtain ⟨i1, i2, i3, i4, ⟨a, r, rfl⟩, i6, i7, i8, i9, i10⟩ := h
    have ht := i7 (0, 0, a) (by simp)
    have hr : ∀ t ∈ r, kwok t := fun t ht => i7 t (List.mem_cons_of_mem _ ht)
    have hl := klen_tl i9
    have e1 : ∀ x, x ≠ 0 → kws ((0, 0, x) :: r) = kws ((0, 0, 0) :: r) + 1 := by intro x hx; simp only [kws, kwc, hx, eq_self, if_true, if_false]; omega
    show kinv K (if _ then _ else _)
    split
    · rename_i hs
      refine ⟨i1, i2, i3, i4, ⟨0, r, rfl⟩, i6, fun t ht2 => ?_, ?_, i9, ?_⟩
      · simp only [List.mem_cons] at ht2
        rcases ht2 with rfl | ht2
        · exact ⟨Or.inl rfl, Or.inl rfl, Or.inl rfl⟩
        · exact hr t ht2
      · have := kw_op (e := 10014) i8 (by omega) (by rw [e1 a hs]; omega)
        rw [this, e1 a hs]; rfl
      · simp only [List.length_append, List.length_cons, List.length_nil]; rw [e1 a hs] at i10; omega
    · rename_i hs
      have hs : a = 0 := Decidable.of_not_not hs
      subst hs
      have e0 : kws ((0, 0, 0) :: r) = kws r := by simp [kws, kwc]
      split
      · rename_i hq
        have hne : (khd ts).1 ≠ 301 := by omega
        refine ⟨i1, i2, i3, i4, by simp, by simp at i6 ⊢; omega, fun t ht2 => ?_, ?_, kTsok_tl i9 hne, ?_⟩
        · simp only [List.mem_cons] at ht2
          rcases ht2 with rfl | ht2
          · exact ⟨Or.inl rfl, Or.inl rfl, Or.inr rfl⟩
          · exact hr t ht2
        · rw [e1 _ (by omega), i8]
        · rw [e1 _ (by omega)]; omega
      · split
        · rename_i hrn
          subst hrn
          exact ⟨i1, i2, i3, i4, i8, i9, by simp only [kws, kwc] at i10; simp at i10; omega⟩
        · rename_i hrn
          split
          · rename_i hq
            have hne : (khd ts).1 ≠ 301 := by omega
            exact ⟨i1, i2, i3, i4, hrn, by simp at i6; omega, hr, by rw [e0] at i8; exact i8, kTsok_tl i9 hne, by rw [e0] at i10; omega⟩
          · trivial
  | 2 =>
    obtain ⟨i1, i2, i3, i4, i8, i9, i10⟩ := h
    have hl := klen_tl i9
    show kinv K (if _ then _ else _)
    split
    · rename_i hq
      have hne : (khd ts).1 ≠ 301 := by omega
      refine ⟨⟨by simp; omega, fun l hl2 => ?_⟩, kTsok_tl i9 hne, ?_⟩
      · simp only [List.mem_append, List.mem_singleton] at hl2
        rcases hl2 with hl2 | rfl
        · exact i1.2 l hl2
        · exact ⟨i3, i4, i8⟩
      · rw [klen_app]; simp [klen]; omega
    · trivial
  | 6 =>
    obtain ⟨i1, i9, i10⟩ := h
    have hl := klen_tl i9
    show kinv K (if _ then _ else _)
    split
    · exact i1
    rename_i hne
    split
    · trivial
    rename_i hw
    have hw := Decidable.of_not_not hw
    split
    · trivial
    rename_i h16
    have ht := kTsok_tl i9 hne
    have hl2 := klen_tl ht
    split
    · trivial
    rename_i hwh
    have hwh := Decidable.of_not_not hwh
    have := i1.1
    exact ⟨i1, by omega, by omega, by omega, by simp, by simp, fun t ht2 => by
      simp only [List.mem_cons, List.not_mem_nil, or_false] at ht2
      subst ht2
      exact ⟨Or.inl rfl, Or.inl rfl, Or.inl rfl⟩, rfl, kTsok_tl ht (by omega), by simp [kws, kwc]; omega⟩
  | 7 => exact h
  | 3 => exact h
  | k + 8 => exact h
theorem kinv_R {K : Nat} {s t : kSt} (h : kinv K s) (hr : kR s t) : kinv K t := by
  obtain ⟨n, rfl⟩ := hr
  induction n generalizing s with
  | zero => exact h
  | succ n ih => exact ih (kinv_st h)
