/-! ===== the claim's heap: the cells that the two constructors make have their places for good ===== -/
abbrev gD : Type := (FieldType × Nat × Nat) ⊕ (Nat × List (Nat × Nat))
def gfld (wj : Nat → Int32) (rj : Nat → Nat) : List (Nat × Nat) → List Value
  | [] => []
  | (0, s) :: t => .int (wj s) :: gfld wj rj t
  | (1, s) :: t => .ref (rj s) :: gfld wj rj t
  | (_, c) :: t => .ref c :: gfld wj rj t
def gshops : Nat → Option Nat := va_up (va_up (va_up (va_up (va_up (fun _ => none) 0 (some 4)) 1 (some 7)) 2 (some 10)) 3 (some 13)) 4 (some 16)
def gcell (wj aj : Nat → Int32) (bj : Nat → Int64) (rj : Nat → Nat) (qj : Nat → Option Nat) : gD → gC
  | .inl (ty, n, 0) => .inl (ty, n, .inl aj)
  | .inl (ty, n, 1) => .inl (ty, n, .inr (.inl bj))
  | .inl (ty, n, 2) => .inl (ty, n, .inr (.inr (.inr (.inr qj))))
  | .inl (ty, n, _) => .inl (ty, n, .inr (.inr (.inr (.inr gshops))))
  | .inr (ci, fs) => .inr (ci, gfld wj rj fs)
def gtab : List gD := [.inr (9, [(2, 1), (0, 1), (2, 2), (0, 3), (2, 3), (2, 19), (2, 20), (2, 32), (1, 8), (1, 9), (2, 34), (2, 35), (2, 36), (2, 37), (2, 38), (2, 41), (0, 16), (0, 17)]),
  .inl (.object "GiftShops$Thing", 100, 2),
  .inl (.object "GiftShops$Sale", 200, 2),
  .inl (.object "GiftShops$Shop", 5, 3),
  .inr (5, [(0, 0), (0, 1), (0, 2), (2, 5), (2, 6)]),
  .inl (.int, 8, 0),
  .inl (.int, 8, 0),
  .inr (5, [(0, 0), (0, 1), (0, 2), (2, 8), (2, 9)]),
  .inl (.int, 8, 0),
  .inl (.int, 8, 0),
  .inr (5, [(0, 0), (0, 1), (0, 2), (2, 11), (2, 12)]),
  .inl (.int, 8, 0),
  .inl (.int, 8, 0),
  .inr (5, [(0, 0), (0, 1), (0, 2), (2, 14), (2, 15)]),
  .inl (.int, 8, 0),
  .inl (.int, 8, 0),
  .inr (5, [(0, 0), (0, 1), (0, 2), (2, 17), (2, 18)]),
  .inl (.int, 8, 0),
  .inl (.int, 8, 0),
  .inl (.int, 8, 0),
  .inr (6, [(2, 21), (0, 1)]),
  .inl (.char, 600, 0),
  .inr (2, [(2, 23), (2, 24), (2, 25), (2, 26), (0, 4), (0, 5)]),
  .inl (.int, 600, 0),
  .inl (.int, 16, 0),
  .inl (.int, 16, 0),
  .inl (.int, 16, 0),
  .inr (2, [(2, 28), (2, 29), (2, 30), (2, 31), (0, 4), (0, 5)]),
  .inl (.int, 600, 0),
  .inl (.int, 16, 0),
  .inl (.int, 16, 0),
  .inl (.int, 16, 0),
  .inr (0, [(2, 33), (1, 1), (0, 2)]),
  .inr (4, [(2, 20), (0, 1), (0, 2), (0, 3), (0, 4)]),
  .inl (.int, 6, 0),
  .inl (.int, 10, 0),
  .inl (.int, 10, 0),
  .inl (.int, 10, 0),
  .inr (1, [(2, 39), (2, 40)]),
  .inl (.int, 36, 0),
  .inl (.int, 160, 0),
  .inr (8, [(2, 42), (2, 43), (0, 2), (0, 3), (0, 4)]),
  .inl (.int, 10, 0),
  .inl (.int, 10, 0),
  .inr (10, [(0, 0), (2, 45), (0, 2), (0, 3), (2, 46), (2, 47), (2, 48), (0, 7), (0, 8), (2, 49), (2, 50), (2, 51), (2, 52), (2, 53), (2, 54), (0, 15), (0, 16), (0, 17), (0, 18), (2, 55), (2, 56), (2, 57), (2, 58), (2, 59), (0, 24), (0, 25), (2, 60), (2, 61), (2, 62), (2, 63), (2, 64), (2, 65), (2, 66), (2, 67), (2, 68), (2, 69), (2, 70), (2, 71), (2, 72), (0, 39), (2, 73), (0, 41), (2, 74), (2, 75), (2, 76), (2, 77), (2, 78), (0, 47), (2, 79), (0, 49), (2, 80), (2, 81), (2, 82), (0, 53)]),
  .inl (.int, 600, 0),
  .inl (.int, 602, 0),
  .inl (.int, 602, 0),
  .inl (.long, 602, 1),
  .inl (.long, 12, 1),
  .inl (.int, 2, 0),
  .inl (.int, 32, 0),
  .inl (.int, 32, 0),
  .inl (.int, 1320, 0),
  .inl (.int, 1320, 0),
  .inl (.int, 7, 0),
  .inl (.int, 7, 0),
  .inl (.int, 7, 0),
  .inl (.int, 6, 0),
  .inl (.int, 660, 0),
  .inl (.int, 100, 0),
  .inl (.int, 100, 0),
  .inl (.int, 100, 0),
  .inl (.int, 100, 0),
  .inl (.int, 100, 0),
  .inl (.int, 100, 0),
  .inl (.int, 100, 0),
  .inl (.int, 100, 0),
  .inl (.int, 8, 0),
  .inl (.int, 5, 0),
  .inl (.int, 40, 0),
  .inl (.int, 10, 0),
  .inl (.int, 10, 0),
  .inl (.int, 11, 0),
  .inl (.int, 200, 0),
  .inl (.int, 200, 0),
  .inl (.int, 200, 0),
  .inl (.int, 200, 0),
  .inl (.boolean, 200, 0),
  .inl (.int, 36, 0),
  .inl (.int, 10, 0),
  .inl (.boolean, 120, 0),
  .inl (.boolean, 10, 0),
  .inl (.long, 1, 1)]
def HP (w a : Nat → Nat → Int32) (b : Nat → Nat → Int64) (r : Nat → Nat → Nat) (q : Nat → Nat → Option Nat) (y : gH) : gH := fun j => match gtab[j]? with
  | some ds => gcell (w j) (a j) (b j) (r j) (q j) ds
  | none => y j
def upd2 {α : Type} (f : Nat → Nat → α) (j s : Nat) (x : α) : Nat → Nat → α := fun i => if i = j then (fun t => if t = s then x else f j t) else f i
theorem upd2_same {α : Type} (f : Nat → Nat → α) (j s : Nat) (x : α) : upd2 f j s x j s = x := by simp [upd2]
theorem upd2_row {α : Type} (f : Nat → Nat → α) (j s : Nat) (x : α) {i : Nat} (h : i ≠ j) : upd2 f j s x i = f i := by simp [upd2, h]
theorem upd2_col {α : Type} (f : Nat → Nat → α) (j s : Nat) (x : α) {t : Nat} (h : t ≠ s) : upd2 f j s x j t = f j t := by simp [upd2, h]
theorem upd2_at {α : Type} (f : Nat → Nat → α) (j s : Nat) (x : α) (t : Nat) : upd2 f j s x j t = if t = s then x else f j t := by simp [upd2]
section GHP
variable {w a : Nat → Nat → Int32} {b : Nat → Nat → Int64} {r : Nat → Nat → Nat} {q : Nat → Nat → Option Nat} {y : gH}
theorem HP_dyn {j : Nat} (h : 84 ≤ j) : HP w a b r q y j = y j := by
  have : gtab[j]? = none := List.getElem?_eq_none (by show gtab.length ≤ j; exact h)
  simp [HP, this]
theorem HP_w {j s : Nat} {x : Int32} {c : gC} (hc : c = HP (upd2 w j s x) a b r q y j) : gset (HP w a b r q y) j c = HP (upd2 w j s x) a b r q y := by
  funext i
  by_cases e : i = j
  · subst e; rw [gset_same]; exact hc
  · rw [gset_ne _ _ e]
    simp only [HP, upd2_row _ _ _ _ e]
theorem HP_a {j s : Nat} {x : Int32} {c : gC} (hc : c = HP w (upd2 a j s x) b r q y j) : gset (HP w a b r q y) j c = HP w (upd2 a j s x) b r q y := by
  funext i
  by_cases e : i = j
  · subst e; rw [gset_same]; exact hc
  · rw [gset_ne _ _ e]
    simp only [HP, upd2_row _ _ _ _ e]
theorem HP_b {j s : Nat} {x : Int64} {c : gC} (hc : c = HP w a (upd2 b j s x) r q y j) : gset (HP w a b r q y) j c = HP w a (upd2 b j s x) r q y := by
  funext i
  by_cases e : i = j
  · subst e; rw [gset_same]; exact hc
  · rw [gset_ne _ _ e]
    simp only [HP, upd2_row _ _ _ _ e]
theorem HP_r {j s : Nat} {x : Nat} {c : gC} (hc : c = HP w a b (upd2 r j s x) q y j) : gset (HP w a b r q y) j c = HP w a b (upd2 r j s x) q y := by
  funext i
  by_cases e : i = j
  · subst e; rw [gset_same]; exact hc
  · rw [gset_ne _ _ e]
    simp only [HP, upd2_row _ _ _ _ e]
theorem HP_q {j s : Nat} {x : Option Nat} {c : gC} (hc : c = HP w a b r (upd2 q j s x) y j) : gset (HP w a b r q y) j c = HP w a b r (upd2 q j s x) y := by
  funext i
  by_cases e : i = j
  · subst e; rw [gset_same]; exact hc
  · rw [gset_ne _ _ e]
    simp only [HP, upd2_row _ _ _ _ e]
theorem HP_y {j : Nat} {c : gC} (h : 84 ≤ j) : gset (HP w a b r q y) j c = HP w a b r q (gset y j c) := by
  funext i
  by_cases e : i = j
  · subst e; rw [gset_same, HP_dyn h, gset_same]
  · rw [gset_ne _ _ e]
    simp only [HP, gset_ne _ _ e]
theorem upd_row {f : Nat → Nat → Int32} {j s : Nat} {x : Int32} : upd (f j) s x = upd2 f j s x j := by
  funext t
  simp [upd, upd2]
theorem updL_row {f : Nat → Nat → Int64} {j s : Nat} {x : Int64} : vp_updL (f j) s x = upd2 f j s x j := by
  funext t
  simp [vp_updL, upd2]
theorem va_up_row {f : Nat → Nat → Option Nat} {j s : Nat} {x : Option Nat} : va_up (f j) s x = upd2 f j s x j := by
  funext t
  simp [va_up, upd2]
variable {d k pc : Nat} {L : gL} {st : List Value} {n u : Nat} {Q : Option Value → gS → Prop} {row : gR}
theorem r_putI (hk : gMT[k]? = some row) {idx len ci sl e1 e2 j : Nat} {w0 : Value} {x : Int32} {fs : List Value} (hq : glook row.2.2.2.2 pc = some (.putfield idx, len, [ci, sl, e1, e2], w0)) (hh : HP w a b r q y j = .inr (ci, fs)) (hf : (Nat.blt sl fs.length && gfit (gty ci sl) (.int x)) = true) (hc : .inr (ci, fs.set sl (.int x)) = HP (upd2 w j sl x) a b r q y j) (h : gX d k (pc + 3) L st (n, u, HP (upd2 w j sl x) a b r q y) Q) : gX d k pc L (.int x :: .ref j :: st) (n, u, HP w a b r q y) Q :=
  r_put hk hq hh hf (by rw [← HP_w hc] at h; exact h)
theorem r_putR (hk : gMT[k]? = some row) {idx len ci sl e1 e2 j : Nat} {w0 : Value} {x : Nat} {fs : List Value} (hq : glook row.2.2.2.2 pc = some (.putfield idx, len, [ci, sl, e1, e2], w0)) (hh : HP w a b r q y j = .inr (ci, fs)) (hf : (Nat.blt sl fs.length && gfit (gty ci sl) (.ref x)) = true) (hc : .inr (ci, fs.set sl (.ref x)) = HP w a b (upd2 r j sl x) q y j) (h : gX d k (pc + 3) L st (n, u, HP w a b (upd2 r j sl x) q y) Q) : gX d k pc L (.ref x :: .ref j :: st) (n, u, HP w a b r q y) Q :=
  r_put hk hq hh hf (by rw [← HP_r hc] at h; exact h)
theorem r_ia (hk : gMT[k]? = some row) {len j N : Nat} {ax : List Nat} {w0 : Value} (i : Nat) {x : Int32} (hq : glook row.2.2.2.2 pc = some (.iaload, len, ax, w0)) (hh : HP w a b r q y j = .inl (.int, N, .inl (a j))) (hx : x = nI i) (hi : i < N) (hN : Nat.ble N 2000 = true) (h : gX d k (pc + 1) L (.int (a j i) :: st) (n, u, HP w a b r q y) Q) : gX d k pc L (.int x :: .ref j :: st) (n, u, HP w a b r q y) Q := by
  have hN2 := Nat.ble_eq.mp hN
  subst hx
  refine r_ald hk hq (Or.inl ⟨rfl, rfl⟩) hh (g_ix hi (by omega)) ?_
  rw [nI_clamp (by omega)]
  exact h
theorem r_ca (hk : gMT[k]? = some row) {len j N : Nat} {ax : List Nat} {w0 : Value} (i : Nat) {x : Int32} (hq : glook row.2.2.2.2 pc = some (.caload, len, ax, w0)) (hh : HP w a b r q y j = .inl (.char, N, .inl (a j))) (hx : x = nI i) (hi : i < N) (hN : Nat.ble N 2000 = true) (h : gX d k (pc + 1) L (.int (a j i) :: st) (n, u, HP w a b r q y) Q) : gX d k pc L (.int x :: .ref j :: st) (n, u, HP w a b r q y) Q := by
  have hN2 := Nat.ble_eq.mp hN
  subst hx
  refine r_ald hk hq (Or.inr (Or.inl ⟨rfl, rfl⟩)) hh (g_ix hi (by omega)) ?_
  rw [nI_clamp (by omega)]
  exact h
theorem r_za (hk : gMT[k]? = some row) {len j N : Nat} {ax : List Nat} {w0 : Value} (i : Nat) {x : Int32} (hq : glook row.2.2.2.2 pc = some (.baload, len, ax, w0)) (hh : HP w a b r q y j = .inl (.boolean, N, .inl (a j))) (hx : x = nI i) (hi : i < N) (hN : Nat.ble N 2000 = true) (h : gX d k (pc + 1) L (.int (a j i) :: st) (n, u, HP w a b r q y) Q) : gX d k pc L (.int x :: .ref j :: st) (n, u, HP w a b r q y) Q := by
  have hN2 := Nat.ble_eq.mp hN
  subst hx
  refine r_ald hk hq (Or.inr (Or.inr ⟨rfl, Or.inl rfl⟩)) hh (g_ix hi (by omega)) ?_
  rw [nI_clamp (by omega)]
  exact h
theorem r_la (hk : gMT[k]? = some row) {len j N : Nat} {ax : List Nat} {w0 : Value} (i : Nat) {x : Int32} (hq : glook row.2.2.2.2 pc = some (.laload, len, ax, w0)) (hh : HP w a b r q y j = .inl (.long, N, .inr (.inl (b j)))) (hx : x = nI i) (hi : i < N) (hN : Nat.ble N 2000 = true) (h : gX d k (pc + 1) L (.long (b j i) :: st) (n, u, HP w a b r q y) Q) : gX d k pc L (.int x :: .ref j :: st) (n, u, HP w a b r q y) Q := by
  have hN2 := Nat.ble_eq.mp hN
  subst hx
  refine r_lald hk hq hh (g_ix hi (by omega)) ?_
  rw [nI_clamp (by omega)]
  exact h
theorem r_qa (hk : gMT[k]? = some row) {len j N : Nat} {ax : List Nat} {w0 : Value} {C : String} {f : Nat → Option Nat} (i : Nat) (o : Nat) {x : Int32} (hq : glook row.2.2.2.2 pc = some (.aaload, len, ax, w0)) (hh : HP w a b r q y j = .inl (.object C, N, .inr (.inr (.inr (.inr f))))) (hx : x = nI i) (hi : i < N) (hN : Nat.ble N 2000 = true) (ho : f i = some o) (h : gX d k (pc + 1) L (.ref o :: st) (n, u, HP w a b r q y) Q) : gX d k pc L (.int x :: .ref j :: st) (n, u, HP w a b r q y) Q := by
  have hN2 := Nat.ble_eq.mp hN
  subst hx
  refine r_aald hk hq hh (g_ix hi (by omega)) ?_
  rw [nI_clamp (by omega), ho]
  exact h
theorem r_is (hk : gMT[k]? = some row) {len j N : Nat} {ax : List Nat} {w0 : Value} (i : Nat) {x z : Int32} (hq : glook row.2.2.2.2 pc = some (.iastore, len, ax, w0)) (hh : HP w a b r q y j = .inl (.int, N, .inl (a j))) (hc : .inl (.int, N, .inl (upd2 a j i z j)) = HP w (upd2 a j i z) b r q y j) (hx : x = nI i) (hi : i < N) (hN : Nat.ble N 2000 = true) (hj : Nat.blt j 1000000000 = true) (h : gX d k (pc + 1) L st (n, u, HP w (upd2 a j i z) b r q y) Q) : gX d k pc L (.int z :: .int x :: .ref j :: st) (n, u, HP w a b r q y) Q := by
  have hN2 := Nat.ble_eq.mp hN
  subst hx
  refine r_ast hk hq hh hj (g_ix hi (by omega)) ?_
  rw [nI_clamp (by omega)]
  dsimp only
  rw [upd_row, HP_a hc]
  exact h
theorem r_cs (hk : gMT[k]? = some row) {len j N : Nat} {ax : List Nat} {w0 : Value} (i : Nat) {x z : Int32} (hq : glook row.2.2.2.2 pc = some (.castore, len, ax, w0)) (hh : HP w a b r q y j = .inl (.char, N, .inl (a j))) (hc : .inl (.char, N, .inl (upd2 a j i z j)) = HP w (upd2 a j i z) b r q y j) (hx : x = nI i) (hi : i < N) (hN : Nat.ble N 2000 = true) (hj : Nat.blt j 1000000000 = true) (hz : vp_nar .char z = z) (h : gX d k (pc + 1) L st (n, u, HP w (upd2 a j i z) b r q y) Q) : gX d k pc L (.int z :: .int x :: .ref j :: st) (n, u, HP w a b r q y) Q := by
  have hN2 := Nat.ble_eq.mp hN
  subst hx
  refine r_cst hk hq hh hj (g_ix hi (by omega)) hz ?_
  rw [nI_clamp (by omega)]
  dsimp only
  rw [upd_row, HP_a hc]
  exact h
theorem r_zs (hk : gMT[k]? = some row) {len j N : Nat} {ax : List Nat} {w0 : Value} (i : Nat) {x z : Int32} (hq : glook row.2.2.2.2 pc = some (.bastore, len, ax, w0)) (hh : HP w a b r q y j = .inl (.boolean, N, .inl (a j))) (hc : .inl (.boolean, N, .inl (upd2 a j i z j)) = HP w (upd2 a j i z) b r q y j) (hx : x = nI i) (hi : i < N) (hN : Nat.ble N 2000 = true) (hj : Nat.blt j 1000000000 = true) (hz : z = 0 ∨ z = 1) (h : gX d k (pc + 1) L st (n, u, HP w (upd2 a j i z) b r q y) Q) : gX d k pc L (.int z :: .int x :: .ref j :: st) (n, u, HP w a b r q y) Q := by
  have hN2 := Nat.ble_eq.mp hN
  subst hx
  refine r_zst hk hq hh hj (g_ix hi (by omega)) hz ?_
  rw [nI_clamp (by omega)]
  dsimp only
  rw [upd_row, HP_a hc]
  exact h
theorem r_ls (hk : gMT[k]? = some row) {len j N : Nat} {ax : List Nat} {w0 : Value} (i : Nat) {x : Int32} {z : Int64} (hq : glook row.2.2.2.2 pc = some (.lastore, len, ax, w0)) (hh : HP w a b r q y j = .inl (.long, N, .inr (.inl (b j)))) (hc : .inl (.long, N, .inr (.inl (upd2 b j i z j))) = HP w a (upd2 b j i z) r q y j) (hx : x = nI i) (hi : i < N) (hN : Nat.ble N 2000 = true) (hj : Nat.blt j 1000000000 = true) (h : gX d k (pc + 1) L st (n, u, HP w a (upd2 b j i z) r q y) Q) : gX d k pc L (.long z :: .int x :: .ref j :: st) (n, u, HP w a b r q y) Q := by
  have hN2 := Nat.ble_eq.mp hN
  subst hx
  refine r_lst hk hq hh hj (g_ix hi (by omega)) ?_
  rw [nI_clamp (by omega)]
  dsimp only
  rw [updL_row, HP_b hc]
  exact h
end GHP
section GCA
variable {d k pc : Nat} {L : gL} {st : List Value} {S : gS} {Q : Option Value → gS → Prop} {row : gR}
theorem r_callV (hk : gMT[k]? = some row) {idx len j na : Nat} {ax : List Nat} {w : Value} {cr : gR} (as rest : List Value) {P : Option Value → gS → Prop} (hq : glook row.2.2.2.2 pc = some (.invokevirtual idx, len, j :: na :: ax, w)) (hj : Nat.blt j 1000 = true) (hst : st = as.reverse ++ rest) (hna : as.length = na) (hcat : Nat.ble (gcat rest) 8 = true) (hcr : gMT[j]? = some cr) (hrc : grcv S cr.1.cls as) (hd : 1 ≤ d) (hE : gE (d - 1) j as S P)
    (h : ∀ v1 S1, P v1 S1 → gX d k (pc + 3) L (v1.toList ++ rest) S1 Q) : gX d k pc L st S Q :=
  r_call hk as rest hq rfl hj hst hna (Nat.ble_eq.mp hcat) hd hE (fun cr2 h2 => by cases hcr.symm.trans h2; exact hrc) h
theorem r_callS (hk : gMT[k]? = some row) {idx len j na : Nat} {ax : List Nat} {w : Value} (as rest : List Value) {P : Option Value → gS → Prop} (hq : glook row.2.2.2.2 pc = some (.invokestatic idx, len, j :: na :: ax, w)) (hj : Nat.blt j 1000 = true) (hst : st = as.reverse ++ rest) (hna : as.length = na) (hcat : Nat.ble (gcat rest) 8 = true) (hd : 1 ≤ d) (hE : gE (d - 1) j as S P)
    (h : ∀ v1 S1, P v1 S1 → gX d k (pc + 3) L (v1.toList ++ rest) S1 Q) : gX d k pc L st S Q :=
  r_call hk as rest hq rfl hj hst hna (Nat.ble_eq.mp hcat) hd hE (fun _ _ => trivial) h
theorem r_callI (hk : gMT[k]? = some row) {idx len j na : Nat} {ax : List Nat} {w : Value} (o : Nat) (as rest : List Value) {P : Option Value → gS → Prop} (hq : glook row.2.2.2.2 pc = some (.invokespecial idx, len, j :: na :: ax, w)) (hj : Nat.blt j 1000 = true) (hst : st = (.ref o :: as).reverse ++ rest) (hna : as.length + 1 = na) (hcat : Nat.ble (gcat rest) 8 = true) (hd : 1 ≤ d) (hE : gE (d - 1) j (.ref o :: as) S P)
    (h : ∀ v1 S1, P v1 S1 → gX d k (pc + 3) L (v1.toList ++ rest) S1 Q) : gX d k pc L st S Q :=
  r_call hk (.ref o :: as) rest hq rfl hj hst hna (Nat.ble_eq.mp hcat) hd hE (fun _ _ => ⟨o, as, rfl⟩) h
end GCA
