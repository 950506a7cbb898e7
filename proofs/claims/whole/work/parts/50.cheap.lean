-- deps: 37 38 39
/-! ===== the class's heap: things and sales beyond the fixed cells; shops; rules ===== -/
def gthc (f : Nat → Int32) : gC := .inr (7, [.int (f 0), .int (f 1), .int (f 2), .int (f 3), .int (f 4), .int (f 5), .int (f 6), .int (f 7), .int (f 8)])
def gsac (z : Nat) (f : Nat → Int32) : gC := .inr (3, [.ref z, .int (f 1), .int (f 2), .int (f 3), .int (f 4), .int (f 5)])
def gY (D : Nat → Nat) (x : Nat → Nat → Int32) (z : Nat → Nat) (y : gH) : gH := fun j => match D j with
  | 1 => gthc (x j)
  | 2 => gsac (z j) (x j)
  | _ => y j
abbrev gisT (D : Nat → Nat) (o : Nat) : Prop := 84 ≤ o ∧ D o = 1
abbrev gisS (D : Nat → Nat) (o : Nat) : Prop := 84 ≤ o ∧ D o = 2
theorem gY_T {D : Nat → Nat} {x : Nat → Nat → Int32} {z : Nat → Nat} {y : gH} {o : Nat} (h : D o = 1) : gY D x z y o = gthc (x o) := by simp [gY, h]
theorem gY_S {D : Nat → Nat} {x : Nat → Nat → Int32} {z : Nat → Nat} {y : gH} {o : Nat} (h : D o = 2) : gY D x z y o = gsac (z o) (x o) := by simp [gY, h]
theorem gY_set {D : Nat → Nat} {x x' : Nat → Nat → Int32} {z : Nat → Nat} {y : gH} {o : Nat} {c : gC} (hx : ∀ i, i ≠ o → x' i = x i) (hc : c = gY D x' z y o) : gset (gY D x z y) o c = gY D x' z y := by
  funext i
  by_cases e : i = o
  · subst e; rw [gset_same]; exact hc
  · rw [gset_ne _ _ e]
    simp only [gY, hx i e]
theorem gY_new {D : Nat → Nat} {x : Nat → Nat → Int32} {z : Nat → Nat} {y : gH} {o k : Nat} {f : Nat → Int32} {v : Nat} {c : gC} (hc : c = match k with | 1 => gthc f | 2 => gsac v f | _ => y o) : gset (gY D x z y) o c = gY (fun i => if i = o then k else D i) (fun i => if i = o then f else x i) (fun i => if i = o then v else z i) y := by
  funext i
  by_cases e : i = o
  · subst e; rw [gset_same, hc]; simp only [gY, if_true]
  · rw [gset_ne _ _ e]
    simp only [gY, e, if_false]
theorem gshops_at {s : Nat} (h : s < 5) : gshops s = some (4 + 3 * s) := by
  match s, h with
  | 0, _ => rfl
  | 1, _ => rfl
  | 2, _ => rfl
  | 3, _ => rfl
  | 4, _ => rfl
section GCH
variable {w a : Nat → Nat → Int32} {b : Nat → Nat → Int64} {r : Nat → Nat → Nat} {q : Nat → Nat → Option Nat} {y : gH}
theorem HP_sh {s : Nat} (h : s < 5) : HP w a b r q y (4 + 3 * s) = .inr (5, [.int (w (4 + 3 * s) 0), .int (w (4 + 3 * s) 1), .int (w (4 + 3 * s) 2), .ref (5 + 3 * s), .ref (6 + 3 * s)]) := by
  match s, h with
  | 0, _ => rfl
  | 1, _ => rfl
  | 2, _ => rfl
  | 3, _ => rfl
  | 4, _ => rfl
theorem HP_so {s : Nat} (h : s < 5) : HP w a b r q y (5 + 3 * s) = .inl (.int, 8, .inl (a (5 + 3 * s))) := by
  match s, h with
  | 0, _ => rfl
  | 1, _ => rfl
  | 2, _ => rfl
  | 3, _ => rfl
  | 4, _ => rfl
theorem HP_la {s : Nat} (h : s < 5) : HP w a b r q y (6 + 3 * s) = .inl (.int, 8, .inl (a (6 + 3 * s))) := by
  match s, h with
  | 0, _ => rfl
  | 1, _ => rfl
  | 2, _ => rfl
  | 3, _ => rfl
  | 4, _ => rfl
theorem HP_ru {e : Nat} (h : e < 2) : HP w a b r q y (22 + 5 * e) = .inr (2, [.ref (23 + 5 * e), .ref (24 + 5 * e), .ref (25 + 5 * e), .ref (26 + 5 * e), .int (w (22 + 5 * e) 4), .int (w (22 + 5 * e) 5)]) := by
  match e, h with
  | 0, _ => rfl
  | 1, _ => rfl
theorem HP_rc {e : Nat} (h : e < 2) : HP w a b r q y (23 + 5 * e) = .inl (.int, 600, .inl (a (23 + 5 * e))) := by
  match e, h with
  | 0, _ => rfl
  | 1, _ => rfl
theorem HP_re {e : Nat} (h : e < 2) : HP w a b r q y (24 + 5 * e) = .inl (.int, 16, .inl (a (24 + 5 * e))) := by
  match e, h with
  | 0, _ => rfl
  | 1, _ => rfl
theorem HP_rw {e : Nat} (h : e < 2) : HP w a b r q y (25 + 5 * e) = .inl (.int, 16, .inl (a (25 + 5 * e))) := by
  match e, h with
  | 0, _ => rfl
  | 1, _ => rfl
theorem HP_rs {e : Nat} (h : e < 2) : HP w a b r q y (26 + 5 * e) = .inl (.int, 16, .inl (a (26 + 5 * e))) := by
  match e, h with
  | 0, _ => rfl
  | 1, _ => rfl
variable {n u : Nat}
theorem grcv_sh {s : Nat} (h : s < 5) (as : List Value) : grcv (n, u, HP w a b r q y) "GiftShops$Shop" (.ref (4 + 3 * s) :: as) := by
  simp only [grcv, HP_sh h]; rfl
theorem grcv_ru {e : Nat} (h : e < 2) (as : List Value) : grcv (n, u, HP w a b r q y) "GiftShops$Rules" (.ref (22 + 5 * e) :: as) := by
  simp only [grcv, HP_ru h]; rfl
variable {d k pc : Nat} {L : gL} {st : List Value} {Q : Option Value → gS → Prop} {row : gR}
variable {D : Nat → Nat} {x : Nat → Nat → Int32} {z : Nat → Nat}
theorem gthc_at {f : Nat → Int32} {sl : Nat} (h : sl < 9) : ([.int (f 0), .int (f 1), .int (f 2), .int (f 3), .int (f 4), .int (f 5), .int (f 6), .int (f 7), .int (f 8)] : List Value)[sl]? = some (.int (f sl)) := by
  match sl, h with
  | 0, _ => rfl
  | 1, _ => rfl
  | 2, _ => rfl
  | 3, _ => rfl
  | 4, _ => rfl
  | 5, _ => rfl
  | 6, _ => rfl
  | 7, _ => rfl
  | 8, _ => rfl
theorem gthc_set {x : Nat → Nat → Int32} {o sl : Nat} {v : Int32} (h : sl < 9) : (.inr (7, ([.int (x o 0), .int (x o 1), .int (x o 2), .int (x o 3), .int (x o 4), .int (x o 5), .int (x o 6), .int (x o 7), .int (x o 8)] : List Value).set sl (.int v)) : gC) = gthc (upd2 x o sl v o) := by
  match sl, h with
  | 0, _ => simp [gthc, upd2]
  | 1, _ => simp [gthc, upd2]
  | 2, _ => simp [gthc, upd2]
  | 3, _ => simp [gthc, upd2]
  | 4, _ => simp [gthc, upd2]
  | 5, _ => simp [gthc, upd2]
  | 6, _ => simp [gthc, upd2]
  | 7, _ => simp [gthc, upd2]
  | 8, _ => simp [gthc, upd2]
theorem r_getT (hk : gMT[k]? = some row) {idx len sl e1 e2 o : Nat} {w0 : Value} (hq : glook row.2.2.2.2 pc = some (.getfield idx, len, [7, sl, e1, e2], w0)) (ho : gisT D o) (hsl : Nat.blt sl 9 = true) (h : gX d k (pc + 3) L (.int (x o sl) :: st) (n, u, HP w a b r q (gY D x z y)) Q) : gX d k pc L (.ref o :: st) (n, u, HP w a b r q (gY D x z y)) Q :=
  r_get hk hq (by show HP w a b r q (gY D x z y) o = _; rw [HP_dyn ho.1, gY_T ho.2]; rfl) (gthc_at (Nat.ble_eq.mp hsl)) h
theorem gty7 : ∀ sl, sl < 9 → gty 7 sl = .int := by decide
theorem r_putT (hk : gMT[k]? = some row) {idx len sl e1 e2 o : Nat} {w0 : Value} {v : Int32} (hq : glook row.2.2.2.2 pc = some (.putfield idx, len, [7, sl, e1, e2], w0)) (ho : gisT D o) (hsl : Nat.blt sl 9 = true) (h : gX d k (pc + 3) L st (n, u, HP w a b r q (gY D (upd2 x o sl v) z y)) Q) : gX d k pc L (.int v :: .ref o :: st) (n, u, HP w a b r q (gY D x z y)) Q := by
  have h9 : sl < 9 := Nat.ble_eq.mp hsl
  refine r_put hk hq (fs := [.int (x o 0), .int (x o 1), .int (x o 2), .int (x o 3), .int (x o 4), .int (x o 5), .int (x o 6), .int (x o 7), .int (x o 8)]) (by show HP w a b r q (gY D x z y) o = _; rw [HP_dyn ho.1, gY_T ho.2]; rfl) ?_ ?_
  · rw [gty7 sl h9]
    have : Nat.blt sl 9 = true := hsl
    simpa [gfit] using h9
  · dsimp only
    rw [HP_y ho.1, gY_set (x' := upd2 x o sl v) (fun i hi => upd2_row _ _ _ _ hi) ?_]
    · exact h
    · rw [gY_T ho.2]; exact gthc_set h9
theorem gsac_at {v : Nat} {f : Nat → Int32} {sl : Nat} (h1 : 1 ≤ sl) (h : sl < 6) : ([.ref v, .int (f 1), .int (f 2), .int (f 3), .int (f 4), .int (f 5)] : List Value)[sl]? = some (.int (f sl)) := by
  match sl, h1, h with
  | 1, _, _ => rfl
  | 2, _, _ => rfl
  | 3, _, _ => rfl
  | 4, _, _ => rfl
  | 5, _, _ => rfl
theorem gsac_set {x : Nat → Nat → Int32} {v o sl : Nat} {i : Int32} (h1 : 1 ≤ sl) (h : sl < 6) : (.inr (3, ([.ref v, .int (x o 1), .int (x o 2), .int (x o 3), .int (x o 4), .int (x o 5)] : List Value).set sl (.int i)) : gC) = gsac v (upd2 x o sl i o) := by
  match sl, h1, h with
  | 1, _, _ => simp [gsac, upd2]
  | 2, _, _ => simp [gsac, upd2]
  | 3, _, _ => simp [gsac, upd2]
  | 4, _, _ => simp [gsac, upd2]
  | 5, _, _ => simp [gsac, upd2]
/-- an int of a sale -/
theorem r_getV (hk : gMT[k]? = some row) {idx len sl e1 e2 o : Nat} {w0 : Value} (hq : glook row.2.2.2.2 pc = some (.getfield idx, len, [3, sl, e1, e2], w0)) (ho : gisS D o) (hsl : (Nat.blt 0 sl && Nat.blt sl 6) = true) (h : gX d k (pc + 3) L (.int (x o sl) :: st) (n, u, HP w a b r q (gY D x z y)) Q) : gX d k pc L (.ref o :: st) (n, u, HP w a b r q (gY D x z y)) Q := by
  rw [Bool.and_eq_true] at hsl
  exact r_get hk hq (by show HP w a b r q (gY D x z y) o = _; rw [HP_dyn ho.1, gY_S ho.2]; rfl) (gsac_at (Nat.ble_eq.mp hsl.1) (Nat.ble_eq.mp hsl.2)) h
/-- a sale's thing -/
theorem r_getVr (hk : gMT[k]? = some row) {idx len e1 e2 o : Nat} {w0 : Value} (hq : glook row.2.2.2.2 pc = some (.getfield idx, len, [3, 0, e1, e2], w0)) (ho : gisS D o) (h : gX d k (pc + 3) L (.ref (z o) :: st) (n, u, HP w a b r q (gY D x z y)) Q) : gX d k pc L (.ref o :: st) (n, u, HP w a b r q (gY D x z y)) Q :=
  r_get hk hq (by show HP w a b r q (gY D x z y) o = _; rw [HP_dyn ho.1, gY_S ho.2]; rfl) rfl h
theorem r_putV (hk : gMT[k]? = some row) {idx len sl e1 e2 o : Nat} {w0 : Value} {v : Int32} (hq : glook row.2.2.2.2 pc = some (.putfield idx, len, [3, sl, e1, e2], w0)) (ho : gisS D o) (hsl : (Nat.blt 0 sl && Nat.blt sl 6 && gfit (gty 3 sl) (.int v)) = true) (h : gX d k (pc + 3) L st (n, u, HP w a b r q (gY D (upd2 x o sl v) z y)) Q) : gX d k pc L (.int v :: .ref o :: st) (n, u, HP w a b r q (gY D x z y)) Q := by
  rw [Bool.and_eq_true, Bool.and_eq_true] at hsl
  have h1 : 1 ≤ sl := Nat.ble_eq.mp hsl.1.1
  have h6 : sl < 6 := Nat.ble_eq.mp hsl.1.2
  refine r_put hk hq (fs := [.ref (z o), .int (x o 1), .int (x o 2), .int (x o 3), .int (x o 4), .int (x o 5)]) (by show HP w a b r q (gY D x z y) o = _; rw [HP_dyn ho.1, gY_S ho.2]; rfl) ?_ ?_
  · rw [Bool.and_eq_true]
    exact ⟨hsl.1.2, hsl.2⟩
  · dsimp only
    rw [HP_y ho.1, gY_set (x' := upd2 x o sl v) (fun i hi => upd2_row _ _ _ _ hi) ?_]
    · exact h
    · rw [gY_S ho.2]; exact gsac_set h1 h6
/-- an int of a shop -/
theorem r_getSh (hk : gMT[k]? = some row) {idx len sl e1 e2 s : Nat} {w0 : Value} (hq : glook row.2.2.2.2 pc = some (.getfield idx, len, [5, sl, e1, e2], w0)) (hs : s < 5) (hsl : Nat.blt sl 3 = true) (h : gX d k (pc + 3) L (.int (w (4 + 3 * s) sl) :: st) (n, u, HP w a b r q y) Q) : gX d k pc L (.ref (4 + 3 * s) :: st) (n, u, HP w a b r q y) Q := by
  refine r_get hk hq (HP_sh hs) ?_ h
  match sl, Nat.ble_eq.mp hsl with
  | 0, _ => rfl
  | 1, _ => rfl
  | 2, _ => rfl
/-- a row of a shop -/
theorem r_getSA (hk : gMT[k]? = some row) {idx len sl e1 e2 s : Nat} {w0 : Value} (hq : glook row.2.2.2.2 pc = some (.getfield idx, len, [5, sl, e1, e2], w0)) (hs : s < 5) (hsl : (Nat.beq sl 3 || Nat.beq sl 4) = true) (h : gX d k (pc + 3) L (.ref (sl + 2 + 3 * s) :: st) (n, u, HP w a b r q y) Q) : gX d k pc L (.ref (4 + 3 * s) :: st) (n, u, HP w a b r q y) Q := by
  refine r_get hk hq (HP_sh hs) ?_ h
  rw [Bool.or_eq_true] at hsl
  rcases hsl with e | e
  · have := Nat.eq_of_beq_eq_true e; subst this; rfl
  · have := Nat.eq_of_beq_eq_true e; subst this; rfl
theorem r_putSh (hk : gMT[k]? = some row) {idx len sl e1 e2 s : Nat} {w0 : Value} {v : Int32} (hq : glook row.2.2.2.2 pc = some (.putfield idx, len, [5, sl, e1, e2], w0)) (hs : s < 5) (hsl : Nat.blt sl 3 = true) (h : gX d k (pc + 3) L st (n, u, HP (upd2 w (4 + 3 * s) sl v) a b r q y) Q) : gX d k pc L (.int v :: .ref (4 + 3 * s) :: st) (n, u, HP w a b r q y) Q := by
  refine r_putI hk hq (HP_sh hs) ?_ ?_ h
  · match sl, Nat.ble_eq.mp hsl with
    | 0, _ => rfl
    | 1, _ => rfl
    | 2, _ => rfl
  · rw [HP_sh hs]
    match sl, Nat.ble_eq.mp hsl with
    | 0, _ => simp [upd2]
    | 1, _ => simp [upd2]
    | 2, _ => simp [upd2]
/-- a number of rules -/
theorem r_getRu (hk : gMT[k]? = some row) {idx len sl e1 e2 e : Nat} {w0 : Value} (hq : glook row.2.2.2.2 pc = some (.getfield idx, len, [2, sl, e1, e2], w0)) (he : e < 2) (hsl : (Nat.beq sl 4 || Nat.beq sl 5) = true) (h : gX d k (pc + 3) L (.int (w (22 + 5 * e) sl) :: st) (n, u, HP w a b r q y) Q) : gX d k pc L (.ref (22 + 5 * e) :: st) (n, u, HP w a b r q y) Q := by
  refine r_get hk hq (HP_ru he) ?_ h
  rw [Bool.or_eq_true] at hsl
  rcases hsl with e | e
  · have := Nat.eq_of_beq_eq_true e; subst this; rfl
  · have := Nat.eq_of_beq_eq_true e; subst this; rfl
/-- a row of rules -/
theorem r_getRA (hk : gMT[k]? = some row) {idx len sl e1 e2 e : Nat} {w0 : Value} (hq : glook row.2.2.2.2 pc = some (.getfield idx, len, [2, sl, e1, e2], w0)) (he : e < 2) (hsl : Nat.blt sl 4 = true) (h : gX d k (pc + 3) L (.ref (sl + 23 + 5 * e) :: st) (n, u, HP w a b r q y) Q) : gX d k pc L (.ref (22 + 5 * e) :: st) (n, u, HP w a b r q y) Q := by
  refine r_get hk hq (HP_ru he) ?_ h
  match sl, Nat.ble_eq.mp hsl with
  | 0, _ => show some (Value.ref (23 + 5 * e)) = some (Value.ref (0 + 23 + 5 * e)); rfl
  | 1, _ => show some (Value.ref (24 + 5 * e)) = some (Value.ref (1 + 23 + 5 * e)); rfl
  | 2, _ => show some (Value.ref (25 + 5 * e)) = some (Value.ref (2 + 23 + 5 * e)); rfl
  | 3, _ => show some (Value.ref (26 + 5 * e)) = some (Value.ref (3 + 23 + 5 * e)); rfl
theorem r_putRu (hk : gMT[k]? = some row) {idx len sl e1 e2 e : Nat} {w0 : Value} {v : Int32} (hq : glook row.2.2.2.2 pc = some (.putfield idx, len, [2, sl, e1, e2], w0)) (he : e < 2) (hsl : (Nat.beq sl 4 || Nat.beq sl 5) = true) (h : gX d k (pc + 3) L st (n, u, HP (upd2 w (22 + 5 * e) sl v) a b r q y) Q) : gX d k pc L (.int v :: .ref (22 + 5 * e) :: st) (n, u, HP w a b r q y) Q := by
  rw [Bool.or_eq_true] at hsl
  refine r_putI hk hq (HP_ru he) ?_ ?_ h
  · rcases hsl with e | e
    · have := Nat.eq_of_beq_eq_true e; subst this; rfl
    · have := Nat.eq_of_beq_eq_true e; subst this; rfl
  · rw [HP_ru he]
    rcases hsl with e | e
    · have := Nat.eq_of_beq_eq_true e; subst this; simp [upd2]
    · have := Nat.eq_of_beq_eq_true e; subst this; simp [upd2]
theorem r_alen (hk : gMT[k]? = some row) {len o N : Nat} {ax : List Nat} {w0 : Value} {ty : FieldType} {f : Nat → Int32} (hq : glook row.2.2.2.2 pc = some (.arraylength, len, ax, w0)) (hh : HP w a b r q y o = .inl (ty, N, .inl f)) (h : gX d k (pc + 1) L (.int (nI N) :: st) (n, u, HP w a b r q y) Q) : gX d k pc L (.ref o :: st) (n, u, HP w a b r q y) Q :=
  r_step hk hq rfl (by simp only [gstep, galen, hh]; rfl) h
theorem r_qs (hk : gMT[k]? = some row) {len j N o ci : Nat} {ax : List Nat} {w0 : Value} {C : String} {fs : List Value} (i : Nat) {v : Int32} (hq : glook row.2.2.2.2 pc = some (.aastore, len, ax, w0)) (hh : HP w a b r q y j = .inl (.object C, N, .inr (.inr (.inr (.inr (q j)))))) (hv : HP w a b r q y o = .inr (ci, fs)) (hC : (gcl[ci]?.map (fun q => q.1)) = some C) (hc : .inl (.object C, N, .inr (.inr (.inr (.inr (upd2 q j i (some o) j))))) = HP w a b r (upd2 q j i (some o)) y j) (hx : v = nI i) (hi : i < N) (hN : (Nat.ble N 2000 && Nat.blt j 1000000000) = true) (h : gX d k (pc + 1) L st (n, u, HP w a b r (upd2 q j i (some o)) y) Q) : gX d k pc L (.ref o :: .int v :: .ref j :: st) (n, u, HP w a b r q y) Q := by
  rw [Bool.and_eq_true] at hN
  have hN2 := Nat.ble_eq.mp hN.1
  subst hx
  refine r_aast hk hq hh hv hC hN.2 (g_ix hi (by omega)) ?_
  rw [nI_clamp (by omega)]
  dsimp only
  rw [va_up_row, HP_q hc]
  exact h
theorem gpr_max (base now since : Int32) : (if (1 : Int32) < base * (10 - 2 * (now - since)) / 10 then base * (10 - 2 * (now - since)) / 10 else 1) = gpr base now since := by
  unfold gpr
  by_cases h : (1 : Int32) < base * (10 - 2 * (now - since)) / 10
  · rw [if_pos h, if_pos (Int32.le_of_lt h)]
  · rw [if_neg h]
    by_cases h2 : (1 : Int32) ≤ base * (10 - 2 * (now - since)) / 10
    · rw [if_pos h2]; exact Int32.le_antisymm h2 (Int32.not_lt.mp h)
    · rw [if_neg h2]
end GCH
