/-! ===== the constructors ===== -/
def gf (N : Nat) (v : Int32) : Nat → Int32 := fun i => if i < N then v else 0
theorem gf_0 {v : Int32} : gf 0 v = fun _ => 0 := by funext i; simp [gf]
theorem gf_s {i : Nat} {v : Int32} : upd (gf i v) i v = gf (i + 1) v := by
  funext j
  by_cases e : j = i
  · subst e; rw [pk_us]; show v = if j < j + 1 then v else 0; rw [if_pos (by omega)]
  · rw [pk_un e]
    show (if j < i then v else 0) = if j < i + 1 then v else 0
    by_cases c : j < i
    · rw [if_pos c, if_pos (by omega)]
    · rw [if_neg c, if_neg (by omega)]
def w0 : Nat → Nat → Int32 := fun j s => if (j = 4 ∨ j = 7 ∨ j = 10 ∨ j = 13 ∨ j = 16) ∧ s = 0 then 10 else if j = 0 ∧ s = 17 then 5 else if j = 44 ∧ s = 39 then 25 else if j = 44 ∧ s = 47 then 5 else 0
def a0 : Nat → Nat → Int32 := fun j => if j = 19 then gf 8 10 else if j = 37 then gf 10 25 else if j = 39 then gf 36 10 else if j = 68 then gf 8 10 else if j = 69 then gf 5 10 else if j = 79 then gf 36 10 else fun _ => 0
def b49 : Nat → Int64 := vp_updL (vp_updL (vp_updL (vp_updL (vp_updL (vp_updL (vp_updL (vp_updL (vp_updL (vp_updL (vp_updL (vp_updL (fun _ => 0) 0 36021578) 1 36643325) 2 24686) 3 628937) 4 1176170) 5 1891) 6 570026) 7 36624233) 8 1326983221) 9 19744) 10 103383) 11 13605325
def b0 : Nat → Nat → Int64 := fun j => if j = 49 then b49 else fun _ => 0
def r0 : Nat → Nat → Nat := fun j s => if j = 0 ∧ s = 8 then 22 else if j = 0 ∧ s = 9 then 27 else if j = 32 ∧ s = 1 then 27 else 0
def q0 : Nat → Nat → Option Nat := fun _ _ => none
def gF (y : gH) : gH := HP w0 a0 b0 r0 q0 y
/-- a thing me is being made; below k all stands as in X -/
def gVx (y : gH) (me : Nat) (cm : gC) (k : Nat) (X : Nat → gC) : gH := fun j => if j = me then cm else if j < k then X j else y j
theorem gVx_alloc {y : gH} {me k : Nat} {cm c : gC} {X : Nat → gC} (h : Nat.beq k me = false) : gset (gVx y me cm k X) k c = gVx y me cm (k + 1) (gset X k c) := by
  have hn : k ≠ me := Nat.ne_of_beq_eq_false h
  funext j
  by_cases e : j = k
  · subst e
    rw [gset_same]
    simp [gVx, hn, gset_same]
  · rw [gset_ne _ _ e]
    by_cases c1 : j = me
    · simp [gVx, c1]
    · by_cases c2 : j < k
      · simp [gVx, c1, c2, gset_ne _ _ e, show j < k + 1 by omega]
      · simp [gVx, c1, c2, show ¬ j < k + 1 by omega]
theorem gVx_new {y : gH} {me k : Nat} {cm c : gC} {X : Nat → gC} (h : Nat.beq k me = false) (hc : c = X k) : gset (gVx y me cm k X) k c = gVx y me cm (k + 1) X := by
  rw [gVx_alloc h, hc, gset_self]
theorem gVx_me {y : gH} {me k : Nat} {cm c : gC} {X : Nat → gC} : gset (gVx y me cm k X) me c = gVx y me c k X := by
  funext j
  by_cases e : j = me
  · subst e; rw [gset_same]; simp [gVx]
  · rw [gset_ne _ _ e]; simp [gVx, e]
theorem gVx_in {y : gH} {me k j : Nat} {cm c : gC} {X : Nat → gC} (h : Nat.beq j me = false) (hj : Nat.blt j k = true) : gset (gVx y me cm k X) j c = gVx y me cm k (gset X j c) := by
  have hn : j ≠ me := Nat.ne_of_beq_eq_false h
  have hk : j < k := Nat.ble_eq.mp hj
  funext i
  by_cases e : i = j
  · subst e; rw [gset_same]; simp [gVx, hn, hk, gset_same]
  · rw [gset_ne _ _ e]; simp [gVx, gset_ne _ _ e]
theorem gV_c2 {y : gH} {me k : Nat} {cm a b : gC} {X : Nat → gC} (h0 : Nat.beq k me = false) (h1 : Nat.beq (k + 1) me = false) (e0 : a = X k) (e1 : b = X (k + 1)) : gset (gset (gVx y me cm k X) k a) (k + 1) b = gVx y me cm (k + 2) X := by rw [gVx_new h0 e0, gVx_new h1 e1]
theorem gV_c3 {y : gH} {me k : Nat} {cm a b c : gC} {X : Nat → gC} (h0 : Nat.beq k me = false) (h1 : Nat.beq (k + 1) me = false) (h2 : Nat.beq (k + 2) me = false) (e0 : a = X k) (e1 : b = X (k + 1)) (e2 : c = X (k + 2)) : gset (gset (gset (gVx y me cm k X) k a) (k + 1) b) (k + 2) c = gVx y me cm (k + 3) X := by rw [gVx_new h0 e0, gVx_new h1 e1, gVx_new h2 e2]
theorem gV_c5 {y : gH} {me k : Nat} {cm a b c d e : gC} {X : Nat → gC} (h0 : Nat.beq k me = false) (h1 : Nat.beq (k + 1) me = false) (h2 : Nat.beq (k + 2) me = false) (h3 : Nat.beq (k + 3) me = false) (h4 : Nat.beq (k + 4) me = false) (e0 : a = X k) (e1 : b = X (k + 1)) (e2 : c = X (k + 2)) (e3 : d = X (k + 3)) (e4 : e = X (k + 4)) : gset (gset (gset (gset (gset (gVx y me cm k X) k a) (k + 1) b) (k + 2) c) (k + 3) d) (k + 4) e = gVx y me cm (k + 5) X := by rw [gVx_new h0 e0, gVx_new h1 e1, gVx_new h2 e2, gVx_new h3 e3, gVx_new h4 e4]
section GK1
variable {d k pc : Nat} {L : gL} {st : List Value} {n u : Nat} {h y : gH} {Q : Option Value → gS → Prop} {row : gR} {me : Nat} {cm : gC} {X : Nat → gC}
theorem gnew_ok {N : Nat} (hN : Nat.ble N 2000 = true) (hn : Nat.blt n 1000000 = true) : ¬ (nI N < 0 ∨ 1000000 < (nI N).toNatClampNeg ∨ 1000000 ≤ n) := by
  have hN2 := Nat.ble_eq.mp hN
  have hn2 : n < 1000000 := Nat.ble_eq.mp hn
  rintro (hc | hc | hc)
  · exact nI_pos (by omega) hc
  · rw [nI_clamp (by omega)] at hc; omega
  · omega
theorem gcl_N {N : Nat} (hN : Nat.ble N 2000 = true) : (nI N).toNatClampNeg = N := nI_clamp (by have hN2 := Nat.ble_eq.mp hN; omega)
theorem r_nI (hk : gMT[k]? = some row) (N : Nat) {x : Int32} {len : Nat} {ax : List Nat} {v0 : Value} (hq : glook row.2.2.2.2 pc = some (.newarray .int, len, ax, v0)) (hx : x = nI N) (hN : Nat.ble N 2000 = true) (hn : Nat.blt n 1000000 = true) (hh : gX d k (pc + 2) L (.ref n :: st) (n + 1, u + N, gset h n (.inl (.int, N, .inl (fun _ => 0)))) Q) : gX d k pc L (.int x :: st) (n, u, h) Q := by
  subst hx
  refine r_step hk hq rfl ?_ hh
  simp only [gstep, gnewa]
  rw [if_neg (gnew_ok hN hn), gcl_N hN]
theorem r_nC (hk : gMT[k]? = some row) (N : Nat) {x : Int32} {len : Nat} {ax : List Nat} {v0 : Value} (hq : glook row.2.2.2.2 pc = some (.newarray .char, len, ax, v0)) (hx : x = nI N) (hN : Nat.ble N 2000 = true) (hn : Nat.blt n 1000000 = true) (hh : gX d k (pc + 2) L (.ref n :: st) (n + 1, u + N, gset h n (.inl (.char, N, .inl (fun _ => 0)))) Q) : gX d k pc L (.int x :: st) (n, u, h) Q := by
  subst hx
  refine r_step hk hq rfl ?_ hh
  simp only [gstep, gnewa]
  rw [if_neg (gnew_ok hN hn), gcl_N hN]
theorem r_nB (hk : gMT[k]? = some row) (N : Nat) {x : Int32} {len : Nat} {ax : List Nat} {v0 : Value} (hq : glook row.2.2.2.2 pc = some (.newarray .boolean, len, ax, v0)) (hx : x = nI N) (hN : Nat.ble N 2000 = true) (hn : Nat.blt n 1000000 = true) (hh : gX d k (pc + 2) L (.ref n :: st) (n + 1, u + N, gset h n (.inl (.boolean, N, .inl (fun _ => 0)))) Q) : gX d k pc L (.int x :: st) (n, u, h) Q := by
  subst hx
  refine r_step hk hq rfl ?_ hh
  simp only [gstep, gnewa]
  rw [if_neg (gnew_ok hN hn), gcl_N hN]
theorem r_nJ (hk : gMT[k]? = some row) (N : Nat) {x : Int32} {len : Nat} {ax : List Nat} {v0 : Value} (hq : glook row.2.2.2.2 pc = some (.newarray .long, len, ax, v0)) (hx : x = nI N) (hN : Nat.ble N 2000 = true) (hn : Nat.blt n 1000000 = true) (hh : gX d k (pc + 2) L (.ref n :: st) (n + 1, u + N, gset h n (.inl (.long, N, .inr (.inl (fun _ => 0))))) Q) : gX d k pc L (.int x :: st) (n, u, h) Q := by
  subst hx
  refine r_step hk hq rfl ?_ hh
  simp only [gstep, gnewa]
  rw [if_neg (gnew_ok hN hn), gcl_N hN]
theorem r_nO (hk : gMT[k]? = some row) (N : Nat) {x : Int32} {idx len ci ps : Nat} {v0 : Value} {q : vw_C} (hq : glook row.2.2.2.2 pc = some (.anewarray idx, len, [ci, ps], v0)) (hc : gcl[ci]? = some q) (hx : x = nI N) (hN : Nat.ble N 2000 = true) (hn : Nat.blt n 1000000 = true) (hh : gX d k (pc + 3) L (.ref n :: st) (n + 1, u + N, gset h n (.inl (.object q.1, N, .inr (.inr (.inr (.inr (fun _ => none))))))) Q) : gX d k pc L (.int x :: st) (n, u, h) Q := by
  subst hx
  refine r_step hk hq rfl ?_ hh
  simp only [gstep, gnewq, hc]
  rw [if_neg (gnew_ok hN hn), gcl_N hN]
theorem r_nV (hk : gMT[k]? = some row) (N : Nat) {x : Int32} {len : Nat} {ax : List Nat} {v0 : Value} (hq : glook row.2.2.2.2 pc = some (.newarray .int, len, ax, v0)) (hx : x = nI N) (hN : Nat.ble N 2000 = true) (hn : Nat.blt n 1000000 = true) (hm : Nat.beq n me = false) (hc : .inl (.int, N, .inl (fun _ => 0)) = X n) (hh : gX d k (pc + 2) L (.ref n :: st) (n + 1, u + N, gVx y me cm (n + 1) X) Q) : gX d k pc L (.int x :: st) (n, u, gVx y me cm n X) Q :=
  r_nI hk N hq hx hN hn (by rw [gVx_new hm hc]; exact hh)
theorem r_nVr (hk : gMT[k]? = some row) (N : Nat) {x : Int32} {len : Nat} {ax : List Nat} {v0 : Value} (hq : glook row.2.2.2.2 pc = some (.newarray .int, len, ax, v0)) (hx : x = nI N) (hN : Nat.ble N 2000 = true) (hn : Nat.blt n 1000000 = true) (hm : Nat.beq n me = false) (hh : gX d k (pc + 2) L (.ref n :: st) (n + 1, u + N, gVx y me cm (n + 1) (gset X n (.inl (.int, N, .inl (fun _ => 0))))) Q) : gX d k pc L (.int x :: st) (n, u, gVx y me cm n X) Q :=
  r_nI hk N hq hx hN hn (by rw [gVx_alloc hm]; exact hh)
theorem r_nZ (hk : gMT[k]? = some row) (N : Nat) {x : Int32} {len : Nat} {ax : List Nat} {v0 : Value} (hq : glook row.2.2.2.2 pc = some (.newarray .boolean, len, ax, v0)) (hx : x = nI N) (hN : Nat.ble N 2000 = true) (hn : Nat.blt n 1000000 = true) (hm : Nat.beq n me = false) (hc : .inl (.boolean, N, .inl (fun _ => 0)) = X n) (hh : gX d k (pc + 2) L (.ref n :: st) (n + 1, u + N, gVx y me cm (n + 1) X) Q) : gX d k pc L (.int x :: st) (n, u, gVx y me cm n X) Q :=
  r_nB hk N hq hx hN hn (by rw [gVx_new hm hc]; exact hh)
theorem r_nL (hk : gMT[k]? = some row) (N : Nat) {x : Int32} {len : Nat} {ax : List Nat} {v0 : Value} (hq : glook row.2.2.2.2 pc = some (.newarray .long, len, ax, v0)) (hx : x = nI N) (hN : Nat.ble N 2000 = true) (hn : Nat.blt n 1000000 = true) (hm : Nat.beq n me = false) (hc : .inl (.long, N, .inr (.inl (fun _ => 0))) = X n) (hh : gX d k (pc + 2) L (.ref n :: st) (n + 1, u + N, gVx y me cm (n + 1) X) Q) : gX d k pc L (.int x :: st) (n, u, gVx y me cm n X) Q :=
  r_nJ hk N hq hx hN hn (by rw [gVx_new hm hc]; exact hh)
theorem r_nLr (hk : gMT[k]? = some row) (N : Nat) {x : Int32} {len : Nat} {ax : List Nat} {v0 : Value} (hq : glook row.2.2.2.2 pc = some (.newarray .long, len, ax, v0)) (hx : x = nI N) (hN : Nat.ble N 2000 = true) (hn : Nat.blt n 1000000 = true) (hm : Nat.beq n me = false) (hh : gX d k (pc + 2) L (.ref n :: st) (n + 1, u + N, gVx y me cm (n + 1) (gset X n (.inl (.long, N, .inr (.inl (fun _ => 0)))))) Q) : gX d k pc L (.int x :: st) (n, u, gVx y me cm n X) Q :=
  r_nJ hk N hq hx hN hn (by rw [gVx_alloc hm]; exact hh)
theorem r_nQ (hk : gMT[k]? = some row) (N : Nat) {x : Int32} {idx len ci ps : Nat} {v0 : Value} {q : vw_C} (hq : glook row.2.2.2.2 pc = some (.anewarray idx, len, [ci, ps], v0)) (hc : gcl[ci]? = some q) (hx : x = nI N) (hN : Nat.ble N 2000 = true) (hn : Nat.blt n 1000000 = true) (hm : Nat.beq n me = false) (he : .inl (.object q.1, N, .inr (.inr (.inr (.inr (fun _ => none))))) = X n) (hh : gX d k (pc + 3) L (.ref n :: st) (n + 1, u + N, gVx y me cm (n + 1) X) Q) : gX d k pc L (.int x :: st) (n, u, gVx y me cm n X) Q :=
  r_nO hk N hq hc hx hN hn (by rw [gVx_new hm he]; exact hh)
theorem r_nQr (hk : gMT[k]? = some row) (N : Nat) {x : Int32} {idx len ci ps : Nat} {v0 : Value} {q : vw_C} (hq : glook row.2.2.2.2 pc = some (.anewarray idx, len, [ci, ps], v0)) (hc : gcl[ci]? = some q) (hx : x = nI N) (hN : Nat.ble N 2000 = true) (hn : Nat.blt n 1000000 = true) (hm : Nat.beq n me = false) (hh : gX d k (pc + 3) L (.ref n :: st) (n + 1, u + N, gVx y me cm (n + 1) (gset X n (.inl (.object q.1, N, .inr (.inr (.inr (.inr (fun _ => none)))))))) Q) : gX d k pc L (.int x :: st) (n, u, gVx y me cm n X) Q :=
  r_nO hk N hq hc hx hN hn (by rw [gVx_alloc hm]; exact hh)
theorem r_pV (hk : gMT[k]? = some row) {idx len ci sl e1 e2 m : Nat} {v0 v : Value} {fs : List Value} (hq : glook row.2.2.2.2 pc = some (.putfield idx, len, [ci, sl, e1, e2], v0)) (hf : (Nat.blt sl fs.length && gfit (gty ci sl) v) = true) (hh : gX d k (pc + 3) L st (n, u, gVx y me (.inr (ci, fs.set sl v)) m X) Q) : gX d k pc L (v :: .ref me :: st) (n, u, gVx y me (.inr (ci, fs)) m X) Q :=
  r_put hk hq (by simp [gVx]) hf (by rw [gVx_me]; exact hh)
theorem r_sV (hk : gMT[k]? = some row) {len j m N : Nat} {ax : List Nat} {v0 : Value} {f : Nat → Int32} (i : Nat) {x v : Int32} (hq : glook row.2.2.2.2 pc = some (.iastore, len, ax, v0)) (hx : x = nI i) (hi : i < N) (hN : (Nat.ble N 2000 && Nat.blt j 1000000000) = true) (hm : Nat.beq j me = false) (hj : Nat.blt j m = true) (hh : gX d k (pc + 1) L st (n, u, gVx y me cm m (gset X j (.inl (.int, N, .inl (upd f i v))))) Q) : gX d k pc L (.int v :: .int x :: .ref j :: st) (n, u, gVx y me cm m (gset X j (.inl (.int, N, .inl f)))) Q := by
  rw [Bool.and_eq_true] at hN
  have hN2 := Nat.ble_eq.mp hN.1
  subst hx
  refine r_ast hk hq (n := N) (f := f) ?_ hN.2 (g_ix hi (by omega)) ?_
  · have h1 : j ≠ me := Nat.ne_of_beq_eq_false hm
    have h2 : j < m := Nat.ble_eq.mp hj
    simp [gVx, h1, h2, gset_same]
  · rw [nI_clamp (by omega)]
    dsimp only
    rw [gVx_in hm hj, gset_set]
    exact hh
theorem r_lV (hk : gMT[k]? = some row) {len j m N : Nat} {ax : List Nat} {v0 : Value} {f : Nat → Int64} (i : Nat) {x : Int32} {v : Int64} (hq : glook row.2.2.2.2 pc = some (.lastore, len, ax, v0)) (hx : x = nI i) (hi : i < N) (hN : (Nat.ble N 2000 && Nat.blt j 1000000000) = true) (hm : Nat.beq j me = false) (hj : Nat.blt j m = true) (hh : gX d k (pc + 1) L st (n, u, gVx y me cm m (gset X j (.inl (.long, N, .inr (.inl (vp_updL f i v)))))) Q) : gX d k pc L (.long v :: .int x :: .ref j :: st) (n, u, gVx y me cm m (gset X j (.inl (.long, N, .inr (.inl f))))) Q := by
  rw [Bool.and_eq_true] at hN
  have hN2 := Nat.ble_eq.mp hN.1
  subst hx
  refine r_lst hk hq (n := N) (f := f) ?_ hN.2 (g_ix hi (by omega)) ?_
  · have h1 : j ≠ me := Nat.ne_of_beq_eq_false hm
    have h2 : j < m := Nat.ble_eq.mp hj
    simp [gVx, h1, h2, gset_same]
  · rw [nI_clamp (by omega)]
    dsimp only
    rw [gVx_in hm hj, gset_set]
    exact hh
theorem r_qV (hk : gMT[k]? = some row) {len j m N o ci : Nat} {ax : List Nat} {v0 : Value} {C : String} {fs : List Value} {f : Nat → Option Nat} (i : Nat) {x : Int32} (hq : glook row.2.2.2.2 pc = some (.aastore, len, ax, v0)) (hx : x = nI i) (hi : (Nat.blt i N && Nat.ble N 2000 && Nat.blt j 1000000000) = true) (hm : Nat.beq j me = false) (hj : Nat.blt j m = true) (ho : gVx y me cm m (gset X j (.inl (.object C, N, .inr (.inr (.inr (.inr f)))))) o = .inr (ci, fs)) (hC : (gcl[ci]?.map (fun q => q.1)) = some C) (ho2 : Nat.beq o j = false) (hh : gX d k (pc + 1) L st (n, u, gVx y me cm m (gset X j (.inl (.object C, N, .inr (.inr (.inr (.inr (va_up f i (some o))))))))) Q) : gX d k pc L (.ref o :: .int x :: .ref j :: st) (n, u, gVx y me cm m (gset X j (.inl (.object C, N, .inr (.inr (.inr (.inr f))))))) Q := by
  rw [Bool.and_eq_true, Bool.and_eq_true] at hi
  have hi2 : i < N := Nat.ble_eq.mp hi.1.1
  have hN2 := Nat.ble_eq.mp hi.1.2
  subst hx
  refine r_aast hk hq (n := N) (f := f) (C := C) ?_ ho hC hi.2 (g_ix hi2 (by omega)) ?_
  · have h1 : j ≠ me := Nat.ne_of_beq_eq_false hm
    have h2 : j < m := Nat.ble_eq.mp hj
    simp [gVx, h1, h2, gset_same]
  · rw [nI_clamp (by omega)]
    dsimp only
    rw [gVx_in hm hj, gset_set]
    exact hh
theorem r_H {H H' : gH} (e : H = H') (hh : gX d k pc L st (n, u, H') Q) : gX d k pc L st (n, u, H) Q := by rw [e]; exact hh
theorem r_X {m : Nat} {X' : Nat → gC} (e : X = X') (hh : gX d k pc L st (n, u, gVx y me cm m X') Q) : gX d k pc L st (n, u, gVx y me cm m X) Q := by rw [e]; exact hh
end GK1
theorem gF_19 (y : gH) : gF y 19 = .inl (.int, 8, .inl (gf 8 10)) := rfl
theorem gF_37 (y : gH) : gF y 37 = .inl (.int, 10, .inl (gf 10 25)) := rfl
theorem gF_3 {y : gH} : gset (gF y) 3 (.inl (.object "GiftShops$Shop", 5, .inr (.inr (.inr (.inr (va_up (va_up (va_up (va_up (va_up (fun _ => none) 0 (some 4)) 1 (some 7)) 2 (some 10)) 3 (some 13)) 4 (some 16))))))) = gF y := gset_self (gF y) 3
theorem gF_49 {y : gH} : gset (gF y) 49 (.inl (.long, 12, .inr (.inl (vp_updL (vp_updL (vp_updL (vp_updL (vp_updL (vp_updL (vp_updL (vp_updL (vp_updL (vp_updL (vp_updL (vp_updL (fun _ => 0) 0 36021578) 1 36643325) 2 24686) 3 628937) 4 1176170) 5 1891) 6 570026) 7 36624233) 8 1326983221) 9 19744) 10 103383) 11 13605325)))) = gF y := gset_self (gF y) 49
theorem gF_mod {F : Nat → gC} {a b c : gC} : gset (gset (gset F 68 a) 69 b) 79 c = gset (gset (gset F 79 c) 69 b) 68 a := by
  funext j
  by_cases e1 : j = 68
  · subst e1; rfl
  by_cases e2 : j = 69
  · subst e2; rfl
  by_cases e3 : j = 79
  · subst e3; rfl
  simp only [gset, e1, e2, e3, if_false]
section GK2
variable {d u : Nat} {h : gH}
theorem i_Shop_4 (hd : 10 ≤ d) : gE d 1 [.ref 4] (5, u, gset h 4 (.inr (5, gdv 5 5))) (fun v S' => v = none ∧ S' = (7, u + 8 + 8, gset (gset (gset h 4 (.inr (5, [.int 10, .int 0, .int 0, .ref 5, .ref 6]))) 5 (.inl (.int, 8, .inl (a0 5)))) 6 (.inl (.int, 8, .inl (a0 6))))) := by
  have hk : gMT[1]? = some gro_1 := rfl
  refine r_in hk [some (.ref 4)] (Nat.le_of_ble_eq_true rfl) rfl ?_
  refine r_step hk rfl rfl rfl ?_
  refine c_objInit hk (by omega) rfl rfl rfl ?_
  refine r_step hk rfl rfl rfl ?_
  refine r_step hk rfl rfl rfl ?_
  refine r_put hk rfl rfl rfl ?_
  refine r_step hk rfl rfl rfl ?_
  refine r_step hk rfl rfl rfl ?_
  refine r_nI hk 8 rfl rfl rfl rfl ?_
  refine r_put hk rfl rfl rfl ?_
  refine r_step hk rfl rfl rfl ?_
  refine r_step hk rfl rfl rfl ?_
  refine r_nI hk 8 rfl rfl rfl rfl ?_
  refine r_put hk rfl rfl rfl ?_
  refine r_ret hk rfl rfl ?_
  refine ⟨rfl, Prod.ext rfl (Prod.ext rfl ?_)⟩
  funext j
  by_cases e4 : j = 4
  · subst e4; rfl
  by_cases e5 : j = 5
  · subst e5; rfl
  by_cases e6 : j = 6
  · subst e6; rfl
  simp only [gset, e4, e5, e6, if_false]
theorem i_Shop_7 (hd : 10 ≤ d) : gE d 1 [.ref 7] (8, u, gset h 7 (.inr (5, gdv 5 5))) (fun v S' => v = none ∧ S' = (10, u + 8 + 8, gset (gset (gset h 7 (.inr (5, [.int 10, .int 0, .int 0, .ref 8, .ref 9]))) 8 (.inl (.int, 8, .inl (a0 8)))) 9 (.inl (.int, 8, .inl (a0 9))))) := by
  have hk : gMT[1]? = some gro_1 := rfl
  refine r_in hk [some (.ref 7)] (Nat.le_of_ble_eq_true rfl) rfl ?_
  refine r_step hk rfl rfl rfl ?_
  refine c_objInit hk (by omega) rfl rfl rfl ?_
  refine r_step hk rfl rfl rfl ?_
  refine r_step hk rfl rfl rfl ?_
  refine r_put hk rfl rfl rfl ?_
  refine r_step hk rfl rfl rfl ?_
  refine r_step hk rfl rfl rfl ?_
  refine r_nI hk 8 rfl rfl rfl rfl ?_
  refine r_put hk rfl rfl rfl ?_
  refine r_step hk rfl rfl rfl ?_
  refine r_step hk rfl rfl rfl ?_
  refine r_nI hk 8 rfl rfl rfl rfl ?_
  refine r_put hk rfl rfl rfl ?_
  refine r_ret hk rfl rfl ?_
  refine ⟨rfl, Prod.ext rfl (Prod.ext rfl ?_)⟩
  funext j
  by_cases e7 : j = 7
  · subst e7; rfl
  by_cases e8 : j = 8
  · subst e8; rfl
  by_cases e9 : j = 9
  · subst e9; rfl
  simp only [gset, e7, e8, e9, if_false]
theorem i_Shop_10 (hd : 10 ≤ d) : gE d 1 [.ref 10] (11, u, gset h 10 (.inr (5, gdv 5 5))) (fun v S' => v = none ∧ S' = (13, u + 8 + 8, gset (gset (gset h 10 (.inr (5, [.int 10, .int 0, .int 0, .ref 11, .ref 12]))) 11 (.inl (.int, 8, .inl (a0 11)))) 12 (.inl (.int, 8, .inl (a0 12))))) := by
  have hk : gMT[1]? = some gro_1 := rfl
  refine r_in hk [some (.ref 10)] (Nat.le_of_ble_eq_true rfl) rfl ?_
  refine r_step hk rfl rfl rfl ?_
  refine c_objInit hk (by omega) rfl rfl rfl ?_
  refine r_step hk rfl rfl rfl ?_
  refine r_step hk rfl rfl rfl ?_
  refine r_put hk rfl rfl rfl ?_
  refine r_step hk rfl rfl rfl ?_
  refine r_step hk rfl rfl rfl ?_
  refine r_nI hk 8 rfl rfl rfl rfl ?_
  refine r_put hk rfl rfl rfl ?_
  refine r_step hk rfl rfl rfl ?_
  refine r_step hk rfl rfl rfl ?_
  refine r_nI hk 8 rfl rfl rfl rfl ?_
  refine r_put hk rfl rfl rfl ?_
  refine r_ret hk rfl rfl ?_
  refine ⟨rfl, Prod.ext rfl (Prod.ext rfl ?_)⟩
  funext j
  by_cases e10 : j = 10
  · subst e10; rfl
  by_cases e11 : j = 11
  · subst e11; rfl
  by_cases e12 : j = 12
  · subst e12; rfl
  simp only [gset, e10, e11, e12, if_false]
theorem i_Shop_13 (hd : 10 ≤ d) : gE d 1 [.ref 13] (14, u, gset h 13 (.inr (5, gdv 5 5))) (fun v S' => v = none ∧ S' = (16, u + 8 + 8, gset (gset (gset h 13 (.inr (5, [.int 10, .int 0, .int 0, .ref 14, .ref 15]))) 14 (.inl (.int, 8, .inl (a0 14)))) 15 (.inl (.int, 8, .inl (a0 15))))) := by
  have hk : gMT[1]? = some gro_1 := rfl
  refine r_in hk [some (.ref 13)] (Nat.le_of_ble_eq_true rfl) rfl ?_
  refine r_step hk rfl rfl rfl ?_
  refine c_objInit hk (by omega) rfl rfl rfl ?_
  refine r_step hk rfl rfl rfl ?_
  refine r_step hk rfl rfl rfl ?_
  refine r_put hk rfl rfl rfl ?_
  refine r_step hk rfl rfl rfl ?_
  refine r_step hk rfl rfl rfl ?_
  refine r_nI hk 8 rfl rfl rfl rfl ?_
  refine r_put hk rfl rfl rfl ?_
  refine r_step hk rfl rfl rfl ?_
  refine r_step hk rfl rfl rfl ?_
  refine r_nI hk 8 rfl rfl rfl rfl ?_
  refine r_put hk rfl rfl rfl ?_
  refine r_ret hk rfl rfl ?_
  refine ⟨rfl, Prod.ext rfl (Prod.ext rfl ?_)⟩
  funext j
  by_cases e13 : j = 13
  · subst e13; rfl
  by_cases e14 : j = 14
  · subst e14; rfl
  by_cases e15 : j = 15
  · subst e15; rfl
  simp only [gset, e13, e14, e15, if_false]
theorem i_Shop_16 (hd : 10 ≤ d) : gE d 1 [.ref 16] (17, u, gset h 16 (.inr (5, gdv 5 5))) (fun v S' => v = none ∧ S' = (19, u + 8 + 8, gset (gset (gset h 16 (.inr (5, [.int 10, .int 0, .int 0, .ref 17, .ref 18]))) 17 (.inl (.int, 8, .inl (a0 17)))) 18 (.inl (.int, 8, .inl (a0 18))))) := by
  have hk : gMT[1]? = some gro_1 := rfl
  refine r_in hk [some (.ref 16)] (Nat.le_of_ble_eq_true rfl) rfl ?_
  refine r_step hk rfl rfl rfl ?_
  refine c_objInit hk (by omega) rfl rfl rfl ?_
  refine r_step hk rfl rfl rfl ?_
  refine r_step hk rfl rfl rfl ?_
  refine r_put hk rfl rfl rfl ?_
  refine r_step hk rfl rfl rfl ?_
  refine r_step hk rfl rfl rfl ?_
  refine r_nI hk 8 rfl rfl rfl rfl ?_
  refine r_put hk rfl rfl rfl ?_
  refine r_step hk rfl rfl rfl ?_
  refine r_step hk rfl rfl rfl ?_
  refine r_nI hk 8 rfl rfl rfl rfl ?_
  refine r_put hk rfl rfl rfl ?_
  refine r_ret hk rfl rfl ?_
  refine ⟨rfl, Prod.ext rfl (Prod.ext rfl ?_)⟩
  funext j
  by_cases e16 : j = 16
  · subst e16; rfl
  by_cases e17 : j = 17
  · subst e17; rfl
  by_cases e18 : j = 18
  · subst e18; rfl
  simp only [gset, e16, e17, e18, if_false]
theorem i_Tape_20 (hd : 10 ≤ d) : gE d 2 [.ref 20] (21, u, gset h 20 (.inr (6, gdv 6 2))) (fun v S' => v = none ∧ S' = (22, u + 600, gset (gset h 20 (.inr (6, [.ref 21, .int 0]))) 21 (.inl (.char, 600, .inl (a0 21))))) := by
  have hk : gMT[2]? = some gro_2 := rfl
  refine r_in hk [some (.ref 20)] (Nat.le_of_ble_eq_true rfl) rfl ?_
  refine r_step hk rfl rfl rfl ?_
  refine c_objInit hk (by omega) rfl rfl rfl ?_
  refine r_step hk rfl rfl rfl ?_
  refine r_step hk rfl rfl rfl ?_
  refine r_nC hk 600 rfl rfl rfl rfl ?_
  refine r_put hk rfl rfl rfl ?_
  refine r_ret hk rfl rfl ?_
  refine ⟨rfl, Prod.ext rfl (Prod.ext rfl ?_)⟩
  funext j
  by_cases e20 : j = 20
  · subst e20; rfl
  by_cases e21 : j = 21
  · subst e21; rfl
  simp only [gset, e20, e21, if_false]
theorem i_Rules_22 (hd : 10 ≤ d) : gE d 3 [.ref 22] (23, u, gset h 22 (.inr (2, gdv 2 6))) (fun v S' => v = none ∧ S' = (27, u + 600 + 16 + 16 + 16, gset (gset (gset (gset (gset h 22 (.inr (2, [.ref 23, .ref 24, .ref 25, .ref 26, .int 0, .int 0]))) 23 (.inl (.int, 600, .inl (a0 23)))) 24 (.inl (.int, 16, .inl (a0 24)))) 25 (.inl (.int, 16, .inl (a0 25)))) 26 (.inl (.int, 16, .inl (a0 26))))) := by
  have hk : gMT[3]? = some gro_3 := rfl
  refine r_in hk [some (.ref 22)] (Nat.le_of_ble_eq_true rfl) rfl ?_
  refine r_step hk rfl rfl rfl ?_
  refine c_objInit hk (by omega) rfl rfl rfl ?_
  refine r_step hk rfl rfl rfl ?_
  refine r_step hk rfl rfl rfl ?_
  refine r_nI hk 600 rfl rfl rfl rfl ?_
  refine r_put hk rfl rfl rfl ?_
  refine r_step hk rfl rfl rfl ?_
  refine r_step hk rfl rfl rfl ?_
  refine r_nI hk 16 rfl rfl rfl rfl ?_
  refine r_put hk rfl rfl rfl ?_
  refine r_step hk rfl rfl rfl ?_
  refine r_step hk rfl rfl rfl ?_
  refine r_nI hk 16 rfl rfl rfl rfl ?_
  refine r_put hk rfl rfl rfl ?_
  refine r_step hk rfl rfl rfl ?_
  refine r_step hk rfl rfl rfl ?_
  refine r_nI hk 16 rfl rfl rfl rfl ?_
  refine r_put hk rfl rfl rfl ?_
  refine r_ret hk rfl rfl ?_
  refine ⟨rfl, Prod.ext rfl (Prod.ext rfl ?_)⟩
  funext j
  by_cases e22 : j = 22
  · subst e22; rfl
  by_cases e23 : j = 23
  · subst e23; rfl
  by_cases e24 : j = 24
  · subst e24; rfl
  by_cases e25 : j = 25
  · subst e25; rfl
  by_cases e26 : j = 26
  · subst e26; rfl
  simp only [gset, e22, e23, e24, e25, e26, if_false]
theorem i_Rules_27 (hd : 10 ≤ d) : gE d 3 [.ref 27] (28, u, gset h 27 (.inr (2, gdv 2 6))) (fun v S' => v = none ∧ S' = (32, u + 600 + 16 + 16 + 16, gset (gset (gset (gset (gset h 27 (.inr (2, [.ref 28, .ref 29, .ref 30, .ref 31, .int 0, .int 0]))) 28 (.inl (.int, 600, .inl (a0 28)))) 29 (.inl (.int, 16, .inl (a0 29)))) 30 (.inl (.int, 16, .inl (a0 30)))) 31 (.inl (.int, 16, .inl (a0 31))))) := by
  have hk : gMT[3]? = some gro_3 := rfl
  refine r_in hk [some (.ref 27)] (Nat.le_of_ble_eq_true rfl) rfl ?_
  refine r_step hk rfl rfl rfl ?_
  refine c_objInit hk (by omega) rfl rfl rfl ?_
  refine r_step hk rfl rfl rfl ?_
  refine r_step hk rfl rfl rfl ?_
  refine r_nI hk 600 rfl rfl rfl rfl ?_
  refine r_put hk rfl rfl rfl ?_
  refine r_step hk rfl rfl rfl ?_
  refine r_step hk rfl rfl rfl ?_
  refine r_nI hk 16 rfl rfl rfl rfl ?_
  refine r_put hk rfl rfl rfl ?_
  refine r_step hk rfl rfl rfl ?_
  refine r_step hk rfl rfl rfl ?_
  refine r_nI hk 16 rfl rfl rfl rfl ?_
  refine r_put hk rfl rfl rfl ?_
  refine r_step hk rfl rfl rfl ?_
  refine r_step hk rfl rfl rfl ?_
  refine r_nI hk 16 rfl rfl rfl rfl ?_
  refine r_put hk rfl rfl rfl ?_
  refine r_ret hk rfl rfl ?_
  refine ⟨rfl, Prod.ext rfl (Prod.ext rfl ?_)⟩
  funext j
  by_cases e27 : j = 27
  · subst e27; rfl
  by_cases e28 : j = 28
  · subst e28; rfl
  by_cases e29 : j = 29
  · subst e29; rfl
  by_cases e30 : j = 30
  · subst e30; rfl
  by_cases e31 : j = 31
  · subst e31; rfl
  simp only [gset, e27, e28, e29, e30, e31, if_false]
theorem i_Scanner_33 (hd : 10 ≤ d) : gE d 5 [.ref 33, .ref 20] (34, u, gset h 33 (.inr (4, gdv 4 5))) (fun v S' => v = none ∧ S' = (34, u, gset h 33 (.inr (4, [.ref 20, .int 0, .int 0, .int 0, .int 0])))) := by
  have hk : gMT[5]? = some gro_5 := rfl
  refine r_in hk [some (.ref 33), some (.ref 20)] (Nat.le_of_ble_eq_true rfl) rfl ?_
  refine r_step hk rfl rfl rfl ?_
  refine c_objInit hk (by omega) rfl rfl rfl ?_
  refine r_step hk rfl rfl rfl ?_
  refine r_step hk rfl rfl rfl ?_
  refine r_put hk rfl rfl rfl ?_
  refine r_ret hk rfl rfl ?_
  refine ⟨rfl, Prod.ext rfl (Prod.ext rfl ?_)⟩
  funext j
  by_cases e33 : j = 33
  · subst e33; rfl
  simp only [gset, e33, if_false]
theorem i_Parser_32 (hd : 12 ≤ d) : gE d 4 [.ref 32, .ref 20, .ref 27] (33, u, gset h 32 (.inr (0, gdv 0 3))) (fun v S' => v = none ∧ S' = (34, u + 5, gset (gset h 32 (.inr (0, [.ref 33, .ref 27, .int 0]))) 33 (.inr (4, [.ref 20, .int 0, .int 0, .int 0, .int 0])))) := by
  have hk : gMT[4]? = some gro_4 := rfl
  refine r_in hk [some (.ref 32), some (.ref 20), some (.ref 27)] (Nat.le_of_ble_eq_true rfl) rfl ?_
  refine r_step hk rfl rfl rfl ?_
  refine c_objInit hk (by omega) rfl rfl rfl ?_
  refine r_step hk rfl rfl rfl ?_
  refine r_new hk rfl rfl (Nat.le_of_ble_eq_true rfl) ?_
  refine r_step hk rfl rfl rfl ?_
  refine r_step hk rfl rfl rfl ?_
  refine r_callI hk 33 [.ref 20] [.ref 33, .ref 32] rfl rfl rfl rfl rfl (by omega) (i_Scanner_33 (by omega)) ?_
  rintro _ _ ⟨rfl, rfl⟩
  refine r_put hk rfl rfl rfl ?_
  refine r_step hk rfl rfl rfl ?_
  refine r_step hk rfl rfl rfl ?_
  refine r_put hk rfl rfl rfl ?_
  refine r_ret hk rfl rfl ?_
  refine ⟨rfl, Prod.ext rfl (Prod.ext rfl ?_)⟩
  funext j
  by_cases e32 : j = 32
  · subst e32; rfl
  by_cases e33 : j = 33
  · subst e33; rfl
  simp only [gset, e32, e33, if_false]
theorem i_Turns_41 (hd : 10 ≤ d) : gE d 7 [.ref 41] (42, u, gset h 41 (.inr (8, gdv 8 5))) (fun v S' => v = none ∧ S' = (44, u + 10 + 10, gset (gset (gset h 41 (.inr (8, [.ref 42, .ref 43, .int 0, .int 0, .int 0]))) 42 (.inl (.int, 10, .inl (a0 42)))) 43 (.inl (.int, 10, .inl (a0 43))))) := by
  have hk : gMT[7]? = some gro_7 := rfl
  refine r_in hk [some (.ref 41)] (Nat.le_of_ble_eq_true rfl) rfl ?_
  refine r_step hk rfl rfl rfl ?_
  refine c_objInit hk (by omega) rfl rfl rfl ?_
  refine r_step hk rfl rfl rfl ?_
  refine r_step hk rfl rfl rfl ?_
  refine r_nI hk 10 rfl rfl rfl rfl ?_
  refine r_put hk rfl rfl rfl ?_
  refine r_step hk rfl rfl rfl ?_
  refine r_step hk rfl rfl rfl ?_
  refine r_nI hk 10 rfl rfl rfl rfl ?_
  refine r_put hk rfl rfl rfl ?_
  refine r_ret hk rfl rfl ?_
  refine ⟨rfl, Prod.ext rfl (Prod.ext rfl ?_)⟩
  funext j
  by_cases e41 : j = 41
  · subst e41; rfl
  by_cases e42 : j = 42
  · subst e42; rfl
  by_cases e43 : j = 43
  · subst e43; rfl
  simp only [gset, e41, e42, e43, if_false]
theorem i_Roads_38 (hd : 12 ≤ d) : gE d 6 [.ref 38] (39, u, gset h 38 (.inr (1, gdv 1 2))) (fun v S' => v = none ∧ S' = (41, u + 36 + 160, gset (gset (gset h 38 (.inr (1, [.ref 39, .ref 40]))) 39 (.inl (.int, 36, .inl (a0 39)))) 40 (.inl (.int, 160, .inl (a0 40))))) := by
  have hk : gMT[6]? = some gro_6 := rfl
  refine r_inQ hk [some (.ref 38), none] (Nat.le_of_ble_eq_true rfl) rfl ?_
  intro Q hQ
  have tail : gX d 6 37 [some (.ref 38), some (.int (nI 36))] [] (40, u + 36, gset (gset h 38 (.inr (1, (gdv 1 2).set 0 (.ref 39)))) 39 (.inl (.int, 36, .inl (gf 36 10)))) Q := by
    iterate 2 refine r_step hk rfl rfl rfl ?_
    refine r_nI hk 160 rfl rfl rfl rfl ?_
    refine r_put hk rfl rfl rfl ?_
    refine r_ret hk rfl rfl ?_
    refine hQ _ _ ⟨rfl, Prod.ext rfl (Prod.ext rfl ?_)⟩
    funext j
    by_cases e1 : j = 38
    · subst e1; rfl
    by_cases e2 : j = 39
    · subst e2; rfl
    by_cases e3 : j = 40
    · subst e3; rfl
    simp only [gset, e1, e2, e3, if_false]
  have loop : ∀ i, i ≤ 36 → ∀ z : Int32, z = nI i → gX d 6 14 [some (.ref 38), some (.int z)] [] (40, u + 36, gset (gset h 38 (.inr (1, (gdv 1 2).set 0 (.ref 39)))) 39 (.inl (.int, 36, .inl (gf i 10)))) Q := by
    refine g_down ?_ ?_
    · intro z hz
      subst hz
      iterate 2 refine r_step hk rfl rfl rfl ?_
      refine r_get hk rfl rfl rfl ?_
      iterate 2 refine r_step hk rfl rfl rfl ?_
      refine r_ge (fun _ => ?_) (fun hq9 => absurd (by decide) hq9)
      exact tail
    · intro i hi ih z hz
      subst hz
      iterate 2 refine r_step hk rfl rfl rfl ?_
      refine r_get hk rfl rfl rfl ?_
      iterate 2 refine r_step hk rfl rfl rfl ?_
      refine r_ge (fun hq9 => absurd hq9 (nI_ge (b := 36) hi (by decide))) (fun _ => ?_)
      refine r_step hk rfl rfl rfl ?_
      refine r_get hk rfl rfl rfl ?_
      iterate 2 refine r_step hk rfl rfl rfl ?_
      refine r_ast hk rfl (n := 36) (f := gf i 10) rfl rfl (g_ix hi (by decide)) ?_
      rw [nI_clamp (by omega), gf_s]
      dsimp only
      rw [gset_set]
      iterate 2 refine r_step hk rfl rfl rfl ?_
      exact ih _ (nI_1 i)
  refine r_step hk rfl rfl rfl ?_
  refine c_objInit hk (by omega) rfl rfl rfl ?_
  iterate 2 refine r_step hk rfl rfl rfl ?_
  refine r_nI hk 36 rfl rfl rfl rfl ?_
  refine r_put hk rfl rfl rfl ?_
  iterate 2 refine r_step hk rfl rfl rfl ?_
  have e : gset (gset (gset h 38 (.inr (1, gdv 1 2))) 39 (.inl (.int, 36, .inl (fun _ => 0)))) 38 (.inr (1, (gdv 1 2).set 0 (.ref 39))) = gset (gset h 38 (.inr (1, (gdv 1 2).set 0 (.ref 39)))) 39 (.inl (.int, 36, .inl (gf 0 10))) := by
    rw [gf_0]
    funext j
    by_cases e1 : j = 38
    · subst e1; rfl
    by_cases e2 : j = 39
    · subst e2; rfl
    simp only [gset, e1, e2, if_false]
  refine Eq.mp (congrArg (fun H => gX d 6 14 [some (.ref 38), some (.int 0)] [] (40, u + 36, H) Q) e.symm) ?_
  exact loop 0 (Nat.zero_le _) 0 rfl
end GK2
set_option maxRecDepth 20000 in
theorem gL_19 {d u : Nat} {y : gH} {Q : Option Value → gS → Prop} {fs : List Value} {X : Nat → gC} (h5 : fs[5]? = some (.ref 19)) (hX : X 19 = .inl (.int, 8, .inl (gf 8 10))) (hh : gX d 0 87 [some (.ref 0), some (.int (nI 8))] [] (20, u, gVx y 0 (.inr (9, fs)) 20 X) Q) : gX d 0 67 [some (.ref 0), some (.int 0)] [] (20, u, gVx y 0 (.inr (9, fs)) 20 (gset X 19 (.inl (.int, 8, .inl (fun _ => 0))))) Q := by
  have hk : gMT[0]? = some gro_0 := rfl
  have loop : ∀ i, i ≤ 8 → ∀ z : Int32, z = nI i → gX d 0 67 [some (.ref 0), some (.int z)] [] (20, u, gVx y 0 (.inr (9, fs)) 20 (gset X 19 (.inl (.int, 8, .inl (gf i 10))))) Q := by
    refine g_down ?_ ?_
    · intro z hz
      subst hz
      iterate 3 refine r_step hk rfl rfl rfl ?_
      refine r_ge (fun _ => ?_) (fun hq9 => absurd (by decide) hq9)
      rw [← hX, gset_self]; exact hh
    · intro i hi ih z hz
      subst hz
      iterate 3 refine r_step hk rfl rfl rfl ?_
      refine r_ge (fun hq9 => absurd hq9 (nI_ge (b := 8) hi (by decide))) (fun _ => ?_)
      refine r_step hk rfl rfl rfl ?_
      refine r_get hk rfl rfl h5 ?_
      iterate 2 refine r_step hk rfl rfl rfl ?_
      refine r_sV hk i rfl rfl hi rfl rfl rfl ?_
      iterate 2 refine r_step hk rfl rfl rfl ?_
      rw [gf_s]; exact ih _ (nI_1 i)
  have h0 := loop 0 (Nat.zero_le _) 0 rfl
  rw [gf_0] at h0
  exact h0
set_option maxRecDepth 20000 in
theorem gL_37 {d u : Nat} {y : gH} {Q : Option Value → gS → Prop} {fs : List Value} {X : Nat → gC} (h5 : fs[13]? = some (.ref 37)) (hX : X 37 = .inl (.int, 10, .inl (gf 10 25))) (hh : gX d 0 193 [some (.ref 0), some (.int (nI 10))] [] (38, u, gVx y 0 (.inr (9, fs)) 38 X) Q) : gX d 0 173 [some (.ref 0), some (.int 0)] [] (38, u, gVx y 0 (.inr (9, fs)) 38 (gset X 37 (.inl (.int, 10, .inl (fun _ => 0))))) Q := by
  have hk : gMT[0]? = some gro_0 := rfl
  have loop : ∀ i, i ≤ 10 → ∀ z : Int32, z = nI i → gX d 0 173 [some (.ref 0), some (.int z)] [] (38, u, gVx y 0 (.inr (9, fs)) 38 (gset X 37 (.inl (.int, 10, .inl (gf i 25))))) Q := by
    refine g_down ?_ ?_
    · intro z hz
      subst hz
      iterate 3 refine r_step hk rfl rfl rfl ?_
      refine r_ge (fun _ => ?_) (fun hq9 => absurd (by decide) hq9)
      rw [← hX, gset_self]; exact hh
    · intro i hi ih z hz
      subst hz
      iterate 3 refine r_step hk rfl rfl rfl ?_
      refine r_ge (fun hq9 => absurd hq9 (nI_ge (b := 10) hi (by decide))) (fun _ => ?_)
      refine r_step hk rfl rfl rfl ?_
      refine r_get hk rfl rfl h5 ?_
      iterate 2 refine r_step hk rfl rfl rfl ?_
      refine r_sV hk i rfl rfl hi rfl rfl rfl ?_
      iterate 2 refine r_step hk rfl rfl rfl ?_
      rw [gf_s]; exact ih _ (nI_1 i)
  have h0 := loop 0 (Nat.zero_le _) 0 rfl
  rw [gf_0] at h0
  exact h0
set_option maxRecDepth 20000 in
theorem gL_68 {d u : Nat} {y : gH} {Q : Option Value → gS → Prop} {fs : List Value} {X : Nat → gC} (h5 : fs[34]? = some (.ref 68)) (hX : X 68 = .inl (.int, 8, .inl (gf 8 10))) (hh : gX d 95 429 [some (.ref 44), some (.int (nI 8))] [] (83, u, gVx y 44 (.inr (10, fs)) 83 X) Q) : gX d 95 409 [some (.ref 44), some (.int 0)] [] (83, u, gVx y 44 (.inr (10, fs)) 83 (gset X 68 (.inl (.int, 8, .inl (fun _ => 0))))) Q := by
  have hk : gMT[95]? = some gro_95 := rfl
  have loop : ∀ i, i ≤ 8 → ∀ z : Int32, z = nI i → gX d 95 409 [some (.ref 44), some (.int z)] [] (83, u, gVx y 44 (.inr (10, fs)) 83 (gset X 68 (.inl (.int, 8, .inl (gf i 10))))) Q := by
    refine g_down ?_ ?_
    · intro z hz
      subst hz
      iterate 3 refine r_step hk rfl rfl rfl ?_
      refine r_ge (fun _ => ?_) (fun hq9 => absurd (by decide) hq9)
      rw [← hX, gset_self]; exact hh
    · intro i hi ih z hz
      subst hz
      iterate 3 refine r_step hk rfl rfl rfl ?_
      refine r_ge (fun hq9 => absurd hq9 (nI_ge (b := 8) hi (by decide))) (fun _ => ?_)
      refine r_step hk rfl rfl rfl ?_
      refine r_get hk rfl rfl h5 ?_
      iterate 2 refine r_step hk rfl rfl rfl ?_
      refine r_sV hk i rfl rfl hi rfl rfl rfl ?_
      iterate 2 refine r_step hk rfl rfl rfl ?_
      rw [gf_s]; exact ih _ (nI_1 i)
  have h0 := loop 0 (Nat.zero_le _) 0 rfl
  rw [gf_0] at h0
  exact h0
set_option maxRecDepth 20000 in
theorem gL_69 {d u : Nat} {y : gH} {Q : Option Value → gS → Prop} {fs : List Value} {X : Nat → gC} (h5 : fs[35]? = some (.ref 69)) (hX : X 69 = .inl (.int, 5, .inl (gf 5 10))) (hh : gX d 95 450 [some (.ref 44), some (.int (nI 5))] [] (83, u, gVx y 44 (.inr (10, fs)) 83 X) Q) : gX d 95 431 [some (.ref 44), some (.int 0)] [] (83, u, gVx y 44 (.inr (10, fs)) 83 (gset X 69 (.inl (.int, 5, .inl (fun _ => 0))))) Q := by
  have hk : gMT[95]? = some gro_95 := rfl
  have loop : ∀ i, i ≤ 5 → ∀ z : Int32, z = nI i → gX d 95 431 [some (.ref 44), some (.int z)] [] (83, u, gVx y 44 (.inr (10, fs)) 83 (gset X 69 (.inl (.int, 5, .inl (gf i 10))))) Q := by
    refine g_down ?_ ?_
    · intro z hz
      subst hz
      iterate 3 refine r_step hk rfl rfl rfl ?_
      refine r_ge (fun _ => ?_) (fun hq9 => absurd (by decide) hq9)
      rw [← hX, gset_self]; exact hh
    · intro i hi ih z hz
      subst hz
      iterate 3 refine r_step hk rfl rfl rfl ?_
      refine r_ge (fun hq9 => absurd hq9 (nI_ge (b := 5) hi (by decide))) (fun _ => ?_)
      refine r_step hk rfl rfl rfl ?_
      refine r_get hk rfl rfl h5 ?_
      iterate 2 refine r_step hk rfl rfl rfl ?_
      refine r_sV hk i rfl rfl hi rfl rfl rfl ?_
      iterate 2 refine r_step hk rfl rfl rfl ?_
      rw [gf_s]; exact ih _ (nI_1 i)
  have h0 := loop 0 (Nat.zero_le _) 0 rfl
  rw [gf_0] at h0
  exact h0
set_option maxRecDepth 20000 in
theorem gL_79 {d u : Nat} {y : gH} {Q : Option Value → gS → Prop} {fs : List Value} {X : Nat → gC} (h5 : fs[48]? = some (.ref 79)) (hX : X 79 = .inl (.int, 36, .inl (gf 36 10))) (hh : gX d 95 472 [some (.ref 44), some (.int (nI 36))] [] (83, u, gVx y 44 (.inr (10, fs)) 83 X) Q) : gX d 95 452 [some (.ref 44), some (.int 0)] [] (83, u, gVx y 44 (.inr (10, fs)) 83 (gset X 79 (.inl (.int, 36, .inl (fun _ => 0))))) Q := by
  have hk : gMT[95]? = some gro_95 := rfl
  have loop : ∀ i, i ≤ 36 → ∀ z : Int32, z = nI i → gX d 95 452 [some (.ref 44), some (.int z)] [] (83, u, gVx y 44 (.inr (10, fs)) 83 (gset X 79 (.inl (.int, 36, .inl (gf i 10))))) Q := by
    refine g_down ?_ ?_
    · intro z hz
      subst hz
      iterate 3 refine r_step hk rfl rfl rfl ?_
      refine r_ge (fun _ => ?_) (fun hq9 => absurd (by decide) hq9)
      rw [← hX, gset_self]; exact hh
    · intro i hi ih z hz
      subst hz
      iterate 3 refine r_step hk rfl rfl rfl ?_
      refine r_ge (fun hq9 => absurd hq9 (nI_ge (b := 36) hi (by decide))) (fun _ => ?_)
      refine r_step hk rfl rfl rfl ?_
      refine r_get hk rfl rfl h5 ?_
      iterate 2 refine r_step hk rfl rfl rfl ?_
      refine r_sV hk i rfl rfl hi rfl rfl rfl ?_
      iterate 2 refine r_step hk rfl rfl rfl ?_
      rw [gf_s]; exact ih _ (nI_1 i)
  have h0 := loop 0 (Nat.zero_le _) 0 rfl
  rw [gf_0] at h0
  exact h0
section GK3
variable {d : Nat} {y : gH}
set_option maxRecDepth 20000 in
theorem i_G (hd : 20 ≤ d) : gE d 0 [.ref 0] (1, 18, gVx y 0 (.inr (9, gdv 9 18)) 1 (gF y)) (fun v S' => v = none ∧ ∃ u, u ≤ 10000 ∧ S' = (44, u, gVx y 0 (gF y 0) 44 (gF y))) := by
  have hk : gMT[0]? = some gro_0 := rfl
  refine r_inQ hk [some (.ref 0), none] (Nat.le_of_ble_eq_true rfl) rfl ?_
  intro Q hQ
  refine r_step hk rfl rfl rfl ?_
  refine c_objInit hk (by omega) rfl rfl rfl ?_
  refine r_step hk rfl rfl rfl ?_
  refine r_step hk rfl rfl rfl ?_
  refine r_nQ hk 100 rfl rfl rfl rfl rfl rfl rfl ?_
  refine r_pV hk rfl rfl ?_
  refine r_step hk rfl rfl rfl ?_
  refine r_step hk rfl rfl rfl ?_
  refine r_nQ hk 200 rfl rfl rfl rfl rfl rfl rfl ?_
  refine r_pV hk rfl rfl ?_
  iterate 2 refine r_step hk rfl rfl rfl ?_
  refine r_nQr hk 5 rfl rfl rfl rfl rfl rfl ?_
  refine r_pV hk rfl rfl ?_
  iterate 2 refine r_step hk rfl rfl rfl ?_
  iterate 3 refine r_step hk rfl rfl rfl ?_
  refine r_ge (fun hq9 => absurd hq9 (by decide)) (fun _ => ?_)
  refine r_step hk rfl rfl rfl ?_
  refine r_get hk rfl rfl rfl ?_
  refine r_step hk rfl rfl rfl ?_
  refine r_new hk rfl rfl (Nat.le_of_ble_eq_true rfl) ?_
  refine r_step hk rfl rfl rfl ?_
  refine r_callI hk 4 [] [.ref 4, .int _, .ref 3] rfl rfl rfl rfl rfl (by omega) (i_Shop_4 (by omega)) ?_
  rintro _ _ ⟨rfl, rfl⟩
  show gX _ _ _ _ _ (7, _, gset (gset (gset (gVx y 0 _ 4 _) 4 _) 5 _) 6 _) Q
  refine r_H (gV_c3 rfl rfl rfl rfl rfl rfl) ?_
  refine r_qV hk 0 rfl rfl rfl rfl rfl rfl rfl rfl ?_
  iterate 2 refine r_step hk rfl rfl rfl ?_
  iterate 3 refine r_step hk rfl rfl rfl ?_
  refine r_ge (fun hq9 => absurd hq9 (by decide)) (fun _ => ?_)
  refine r_step hk rfl rfl rfl ?_
  refine r_get hk rfl rfl rfl ?_
  refine r_step hk rfl rfl rfl ?_
  refine r_new hk rfl rfl (Nat.le_of_ble_eq_true rfl) ?_
  refine r_step hk rfl rfl rfl ?_
  refine r_callI hk 7 [] [.ref 7, .int _, .ref 3] rfl rfl rfl rfl rfl (by omega) (i_Shop_7 (by omega)) ?_
  rintro _ _ ⟨rfl, rfl⟩
  show gX _ _ _ _ _ (10, _, gset (gset (gset (gVx y 0 _ 7 _) 7 _) 8 _) 9 _) Q
  refine r_H (gV_c3 rfl rfl rfl rfl rfl rfl) ?_
  refine r_qV hk 1 rfl rfl rfl rfl rfl rfl rfl rfl ?_
  iterate 2 refine r_step hk rfl rfl rfl ?_
  iterate 3 refine r_step hk rfl rfl rfl ?_
  refine r_ge (fun hq9 => absurd hq9 (by decide)) (fun _ => ?_)
  refine r_step hk rfl rfl rfl ?_
  refine r_get hk rfl rfl rfl ?_
  refine r_step hk rfl rfl rfl ?_
  refine r_new hk rfl rfl (Nat.le_of_ble_eq_true rfl) ?_
  refine r_step hk rfl rfl rfl ?_
  refine r_callI hk 10 [] [.ref 10, .int _, .ref 3] rfl rfl rfl rfl rfl (by omega) (i_Shop_10 (by omega)) ?_
  rintro _ _ ⟨rfl, rfl⟩
  show gX _ _ _ _ _ (13, _, gset (gset (gset (gVx y 0 _ 10 _) 10 _) 11 _) 12 _) Q
  refine r_H (gV_c3 rfl rfl rfl rfl rfl rfl) ?_
  refine r_qV hk 2 rfl rfl rfl rfl rfl rfl rfl rfl ?_
  iterate 2 refine r_step hk rfl rfl rfl ?_
  iterate 3 refine r_step hk rfl rfl rfl ?_
  refine r_ge (fun hq9 => absurd hq9 (by decide)) (fun _ => ?_)
  refine r_step hk rfl rfl rfl ?_
  refine r_get hk rfl rfl rfl ?_
  refine r_step hk rfl rfl rfl ?_
  refine r_new hk rfl rfl (Nat.le_of_ble_eq_true rfl) ?_
  refine r_step hk rfl rfl rfl ?_
  refine r_callI hk 13 [] [.ref 13, .int _, .ref 3] rfl rfl rfl rfl rfl (by omega) (i_Shop_13 (by omega)) ?_
  rintro _ _ ⟨rfl, rfl⟩
  show gX _ _ _ _ _ (16, _, gset (gset (gset (gVx y 0 _ 13 _) 13 _) 14 _) 15 _) Q
  refine r_H (gV_c3 rfl rfl rfl rfl rfl rfl) ?_
  refine r_qV hk 3 rfl rfl rfl rfl rfl rfl rfl rfl ?_
  iterate 2 refine r_step hk rfl rfl rfl ?_
  iterate 3 refine r_step hk rfl rfl rfl ?_
  refine r_ge (fun hq9 => absurd hq9 (by decide)) (fun _ => ?_)
  refine r_step hk rfl rfl rfl ?_
  refine r_get hk rfl rfl rfl ?_
  refine r_step hk rfl rfl rfl ?_
  refine r_new hk rfl rfl (Nat.le_of_ble_eq_true rfl) ?_
  refine r_step hk rfl rfl rfl ?_
  refine r_callI hk 16 [] [.ref 16, .int _, .ref 3] rfl rfl rfl rfl rfl (by omega) (i_Shop_16 (by omega)) ?_
  rintro _ _ ⟨rfl, rfl⟩
  show gX _ _ _ _ _ (19, _, gset (gset (gset (gVx y 0 _ 16 _) 16 _) 17 _) 18 _) Q
  refine r_H (gV_c3 rfl rfl rfl rfl rfl rfl) ?_
  refine r_qV hk 4 rfl rfl rfl rfl rfl rfl rfl rfl ?_
  iterate 2 refine r_step hk rfl rfl rfl ?_
  iterate 3 refine r_step hk rfl rfl rfl ?_
  refine r_ge (fun _ => ?_) (fun hq9 => absurd (by decide) hq9)
  refine r_X gF_3 ?_
  refine r_step hk rfl rfl rfl ?_
  refine r_step hk rfl rfl rfl ?_
  refine r_nVr hk 8 rfl rfl rfl rfl rfl ?_
  refine r_pV hk rfl rfl ?_
  refine r_step hk rfl rfl rfl ?_
  refine r_step hk rfl rfl rfl ?_
  refine gL_19 rfl (gF_19 y) ?_
  refine r_step hk rfl rfl rfl ?_
  refine r_new hk rfl rfl (Nat.le_of_ble_eq_true rfl) ?_
  refine r_step hk rfl rfl rfl ?_
  refine r_callI hk 20 [] [.ref 20, .ref 0] rfl rfl rfl rfl rfl (by omega) (i_Tape_20 (by omega)) ?_
  rintro _ _ ⟨rfl, rfl⟩
  show gX _ _ _ _ _ (22, _, gset (gset (gVx y 0 _ 20 _) 20 _) 21 _) Q
  refine r_H (gV_c2 rfl rfl rfl rfl) ?_
  refine r_pV hk rfl rfl ?_
  refine r_step hk rfl rfl rfl ?_
  refine r_new hk rfl rfl (Nat.le_of_ble_eq_true rfl) ?_
  refine r_step hk rfl rfl rfl ?_
  refine r_callI hk 22 [] [.ref 22, .ref 0] rfl rfl rfl rfl rfl (by omega) (i_Rules_22 (by omega)) ?_
  rintro _ _ ⟨rfl, rfl⟩
  show gX _ _ _ _ _ (27, _, gset (gset (gset (gset (gset (gVx y 0 _ 22 _) 22 _) 23 _) 24 _) 25 _) 26 _) Q
  refine r_H (gV_c5 rfl rfl rfl rfl rfl rfl rfl rfl rfl rfl) ?_
  refine r_pV hk rfl rfl ?_
  refine r_step hk rfl rfl rfl ?_
  refine r_new hk rfl rfl (Nat.le_of_ble_eq_true rfl) ?_
  refine r_step hk rfl rfl rfl ?_
  refine r_callI hk 27 [] [.ref 27, .ref 0] rfl rfl rfl rfl rfl (by omega) (i_Rules_27 (by omega)) ?_
  rintro _ _ ⟨rfl, rfl⟩
  show gX _ _ _ _ _ (32, _, gset (gset (gset (gset (gset (gVx y 0 _ 27 _) 27 _) 28 _) 29 _) 30 _) 31 _) Q
  refine r_H (gV_c5 rfl rfl rfl rfl rfl rfl rfl rfl rfl rfl) ?_
  refine r_pV hk rfl rfl ?_
  refine r_step hk rfl rfl rfl ?_
  refine r_new hk rfl rfl (Nat.le_of_ble_eq_true rfl) ?_
  refine r_step hk rfl rfl rfl ?_
  refine r_step hk rfl rfl rfl ?_
  refine r_get hk rfl rfl rfl ?_
  refine r_step hk rfl rfl rfl ?_
  refine r_get hk rfl rfl rfl ?_
  refine r_callI hk 32 [.ref 20, .ref 27] [.ref 32, .ref 0] rfl rfl rfl rfl rfl (by omega) (i_Parser_32 (by omega)) ?_
  rintro _ _ ⟨rfl, rfl⟩
  show gX _ _ _ _ _ (34, _, gset (gset (gVx y 0 _ 32 _) 32 _) 33 _) Q
  refine r_H (gV_c2 rfl rfl rfl rfl) ?_
  refine r_pV hk rfl rfl ?_
  refine r_step hk rfl rfl rfl ?_
  refine r_step hk rfl rfl rfl ?_
  refine r_nV hk 6 rfl rfl rfl rfl rfl rfl ?_
  refine r_pV hk rfl rfl ?_
  refine r_step hk rfl rfl rfl ?_
  refine r_step hk rfl rfl rfl ?_
  refine r_nV hk 10 rfl rfl rfl rfl rfl rfl ?_
  refine r_pV hk rfl rfl ?_
  refine r_step hk rfl rfl rfl ?_
  refine r_step hk rfl rfl rfl ?_
  refine r_nV hk 10 rfl rfl rfl rfl rfl rfl ?_
  refine r_pV hk rfl rfl ?_
  refine r_step hk rfl rfl rfl ?_
  refine r_step hk rfl rfl rfl ?_
  refine r_nVr hk 10 rfl rfl rfl rfl rfl ?_
  refine r_pV hk rfl rfl ?_
  refine r_step hk rfl rfl rfl ?_
  refine r_step hk rfl rfl rfl ?_
  refine gL_37 rfl (gF_37 y) ?_
  refine r_step hk rfl rfl rfl ?_
  refine r_new hk rfl rfl (Nat.le_of_ble_eq_true rfl) ?_
  refine r_step hk rfl rfl rfl ?_
  refine r_callI hk 38 [] [.ref 38, .ref 0] rfl rfl rfl rfl rfl (by omega) (i_Roads_38 (by omega)) ?_
  rintro _ _ ⟨rfl, rfl⟩
  show gX _ _ _ _ _ (41, _, gset (gset (gset (gVx y 0 _ 38 _) 38 _) 39 _) 40 _) Q
  refine r_H (gV_c3 rfl rfl rfl rfl rfl rfl) ?_
  refine r_pV hk rfl rfl ?_
  refine r_step hk rfl rfl rfl ?_
  refine r_new hk rfl rfl (Nat.le_of_ble_eq_true rfl) ?_
  refine r_step hk rfl rfl rfl ?_
  refine r_callI hk 41 [] [.ref 41, .ref 0] rfl rfl rfl rfl rfl (by omega) (i_Turns_41 (by omega)) ?_
  rintro _ _ ⟨rfl, rfl⟩
  show gX _ _ _ _ _ (44, _, gset (gset (gset (gVx y 0 _ 41 _) 41 _) 42 _) 43 _) Q
  refine r_H (gV_c3 rfl rfl rfl rfl rfl rfl) ?_
  refine r_pV hk rfl rfl ?_
  refine r_step hk rfl rfl rfl ?_
  refine r_step hk rfl rfl rfl ?_
  refine r_pV hk rfl rfl ?_
  refine r_ret hk rfl rfl ?_
  exact hQ _ _ ⟨rfl, _, Nat.le_of_ble_eq_true rfl, rfl⟩
set_option maxRecDepth 20000 in
theorem i_M (hd : 20 ≤ d) {u0 : Nat} (hu0 : u0 ≤ 10100) : gE d 95 [.ref 44] (45, u0, gVx y 44 (.inr (10, gdv 10 54)) 45 (gF y)) (fun v S' => v = none ∧ ∃ u, u ≤ 19000 ∧ S' = (83, u, gVx y 44 (gF y 44) 83 (gF y))) := by
  have hk : gMT[95]? = some gro_95 := rfl
  refine r_inQ hk [some (.ref 44), none] (Nat.le_of_ble_eq_true rfl) rfl ?_
  intro Q hQ
  refine r_step hk rfl rfl rfl ?_
  refine c_objInit hk (by omega) rfl rfl rfl ?_
  refine r_step hk rfl rfl rfl ?_
  refine r_step hk rfl rfl rfl ?_
  refine r_nV hk 600 rfl rfl rfl rfl rfl rfl ?_
  refine r_pV hk rfl rfl ?_
  refine r_step hk rfl rfl rfl ?_
  refine r_step hk rfl rfl rfl ?_
  refine r_nV hk 602 rfl rfl rfl rfl rfl rfl ?_
  refine r_pV hk rfl rfl ?_
  refine r_step hk rfl rfl rfl ?_
  refine r_step hk rfl rfl rfl ?_
  refine r_nV hk 602 rfl rfl rfl rfl rfl rfl ?_
  refine r_pV hk rfl rfl ?_
  refine r_step hk rfl rfl rfl ?_
  refine r_step hk rfl rfl rfl ?_
  refine r_nL hk 602 rfl rfl rfl rfl rfl rfl ?_
  refine r_pV hk rfl rfl ?_
  refine r_step hk rfl rfl rfl ?_
  refine r_step hk rfl rfl rfl ?_
  refine r_nLr hk 12 rfl rfl rfl rfl rfl ?_
  refine r_step hk rfl rfl rfl ?_
  refine r_step hk rfl rfl rfl ?_
  refine r_step hk rfl rfl rfl ?_
  refine r_lV hk 0 rfl rfl (by decide) rfl rfl rfl ?_
  refine r_step hk rfl rfl rfl ?_
  refine r_step hk rfl rfl rfl ?_
  refine r_step hk rfl rfl rfl ?_
  refine r_lV hk 1 rfl rfl (by decide) rfl rfl rfl ?_
  refine r_step hk rfl rfl rfl ?_
  refine r_step hk rfl rfl rfl ?_
  refine r_step hk rfl rfl rfl ?_
  refine r_lV hk 2 rfl rfl (by decide) rfl rfl rfl ?_
  refine r_step hk rfl rfl rfl ?_
  refine r_step hk rfl rfl rfl ?_
  refine r_step hk rfl rfl rfl ?_
  refine r_lV hk 3 rfl rfl (by decide) rfl rfl rfl ?_
  refine r_step hk rfl rfl rfl ?_
  refine r_step hk rfl rfl rfl ?_
  refine r_step hk rfl rfl rfl ?_
  refine r_lV hk 4 rfl rfl (by decide) rfl rfl rfl ?_
  refine r_step hk rfl rfl rfl ?_
  refine r_step hk rfl rfl rfl ?_
  refine r_step hk rfl rfl rfl ?_
  refine r_lV hk 5 rfl rfl (by decide) rfl rfl rfl ?_
  refine r_step hk rfl rfl rfl ?_
  refine r_step hk rfl rfl rfl ?_
  refine r_step hk rfl rfl rfl ?_
  refine r_lV hk 6 rfl rfl (by decide) rfl rfl rfl ?_
  refine r_step hk rfl rfl rfl ?_
  refine r_step hk rfl rfl rfl ?_
  refine r_step hk rfl rfl rfl ?_
  refine r_lV hk 7 rfl rfl (by decide) rfl rfl rfl ?_
  refine r_step hk rfl rfl rfl ?_
  refine r_step hk rfl rfl rfl ?_
  refine r_step hk rfl rfl rfl ?_
  refine r_lV hk 8 rfl rfl (by decide) rfl rfl rfl ?_
  refine r_step hk rfl rfl rfl ?_
  refine r_step hk rfl rfl rfl ?_
  refine r_step hk rfl rfl rfl ?_
  refine r_lV hk 9 rfl rfl (by decide) rfl rfl rfl ?_
  refine r_step hk rfl rfl rfl ?_
  refine r_step hk rfl rfl rfl ?_
  refine r_step hk rfl rfl rfl ?_
  refine r_lV hk 10 rfl rfl (by decide) rfl rfl rfl ?_
  refine r_step hk rfl rfl rfl ?_
  refine r_step hk rfl rfl rfl ?_
  refine r_step hk rfl rfl rfl ?_
  refine r_lV hk 11 rfl rfl (by decide) rfl rfl rfl ?_
  refine r_X gF_49 ?_
  refine r_pV hk rfl rfl ?_
  refine r_step hk rfl rfl rfl ?_
  refine r_step hk rfl rfl rfl ?_
  refine r_nV hk 2 rfl rfl rfl rfl rfl rfl ?_
  refine r_pV hk rfl rfl ?_
  refine r_step hk rfl rfl rfl ?_
  refine r_step hk rfl rfl rfl ?_
  refine r_nV hk 32 rfl rfl rfl rfl rfl rfl ?_
  refine r_pV hk rfl rfl ?_
  refine r_step hk rfl rfl rfl ?_
  refine r_step hk rfl rfl rfl ?_
  refine r_nV hk 32 rfl rfl rfl rfl rfl rfl ?_
  refine r_pV hk rfl rfl ?_
  refine r_step hk rfl rfl rfl ?_
  refine r_step hk rfl rfl rfl ?_
  refine r_nV hk 1320 rfl rfl rfl rfl rfl rfl ?_
  refine r_pV hk rfl rfl ?_
  refine r_step hk rfl rfl rfl ?_
  refine r_step hk rfl rfl rfl ?_
  refine r_nV hk 1320 rfl rfl rfl rfl rfl rfl ?_
  refine r_pV hk rfl rfl ?_
  refine r_step hk rfl rfl rfl ?_
  refine r_step hk rfl rfl rfl ?_
  refine r_nV hk 7 rfl rfl rfl rfl rfl rfl ?_
  refine r_pV hk rfl rfl ?_
  refine r_step hk rfl rfl rfl ?_
  refine r_step hk rfl rfl rfl ?_
  refine r_nV hk 7 rfl rfl rfl rfl rfl rfl ?_
  refine r_pV hk rfl rfl ?_
  refine r_step hk rfl rfl rfl ?_
  refine r_step hk rfl rfl rfl ?_
  refine r_nV hk 7 rfl rfl rfl rfl rfl rfl ?_
  refine r_pV hk rfl rfl ?_
  refine r_step hk rfl rfl rfl ?_
  refine r_step hk rfl rfl rfl ?_
  refine r_nV hk 6 rfl rfl rfl rfl rfl rfl ?_
  refine r_pV hk rfl rfl ?_
  refine r_step hk rfl rfl rfl ?_
  refine r_step hk rfl rfl rfl ?_
  refine r_nV hk 660 rfl rfl rfl rfl rfl rfl ?_
  refine r_pV hk rfl rfl ?_
  refine r_step hk rfl rfl rfl ?_
  refine r_step hk rfl rfl rfl ?_
  refine r_nV hk 100 rfl rfl rfl rfl rfl rfl ?_
  refine r_pV hk rfl rfl ?_
  refine r_step hk rfl rfl rfl ?_
  refine r_step hk rfl rfl rfl ?_
  refine r_nV hk 100 rfl rfl rfl rfl rfl rfl ?_
  refine r_pV hk rfl rfl ?_
  refine r_step hk rfl rfl rfl ?_
  refine r_step hk rfl rfl rfl ?_
  refine r_nV hk 100 rfl rfl rfl rfl rfl rfl ?_
  refine r_pV hk rfl rfl ?_
  refine r_step hk rfl rfl rfl ?_
  refine r_step hk rfl rfl rfl ?_
  refine r_nV hk 100 rfl rfl rfl rfl rfl rfl ?_
  refine r_pV hk rfl rfl ?_
  refine r_step hk rfl rfl rfl ?_
  refine r_step hk rfl rfl rfl ?_
  refine r_nV hk 100 rfl rfl rfl rfl rfl rfl ?_
  refine r_pV hk rfl rfl ?_
  refine r_step hk rfl rfl rfl ?_
  refine r_step hk rfl rfl rfl ?_
  refine r_nV hk 100 rfl rfl rfl rfl rfl rfl ?_
  refine r_pV hk rfl rfl ?_
  refine r_step hk rfl rfl rfl ?_
  refine r_step hk rfl rfl rfl ?_
  refine r_nV hk 100 rfl rfl rfl rfl rfl rfl ?_
  refine r_pV hk rfl rfl ?_
  refine r_step hk rfl rfl rfl ?_
  refine r_step hk rfl rfl rfl ?_
  refine r_nV hk 100 rfl rfl rfl rfl rfl rfl ?_
  refine r_pV hk rfl rfl ?_
  refine r_step hk rfl rfl rfl ?_
  refine r_step hk rfl rfl rfl ?_
  refine r_nVr hk 8 rfl rfl rfl rfl rfl ?_
  refine r_pV hk rfl rfl ?_
  refine r_step hk rfl rfl rfl ?_
  refine r_step hk rfl rfl rfl ?_
  refine r_nVr hk 5 rfl rfl rfl rfl rfl ?_
  refine r_pV hk rfl rfl ?_
  refine r_step hk rfl rfl rfl ?_
  refine r_step hk rfl rfl rfl ?_
  refine r_nV hk 40 rfl rfl rfl rfl rfl rfl ?_
  refine r_pV hk rfl rfl ?_
  refine r_step hk rfl rfl rfl ?_
  refine r_step hk rfl rfl rfl ?_
  refine r_nV hk 10 rfl rfl rfl rfl rfl rfl ?_
  refine r_pV hk rfl rfl ?_
  refine r_step hk rfl rfl rfl ?_
  refine r_step hk rfl rfl rfl ?_
  refine r_nV hk 10 rfl rfl rfl rfl rfl rfl ?_
  refine r_pV hk rfl rfl ?_
  refine r_step hk rfl rfl rfl ?_
  refine r_step hk rfl rfl rfl ?_
  refine r_pV hk rfl rfl ?_
  refine r_step hk rfl rfl rfl ?_
  refine r_step hk rfl rfl rfl ?_
  refine r_nV hk 11 rfl rfl rfl rfl rfl rfl ?_
  refine r_pV hk rfl rfl ?_
  refine r_step hk rfl rfl rfl ?_
  refine r_step hk rfl rfl rfl ?_
  refine r_nV hk 200 rfl rfl rfl rfl rfl rfl ?_
  refine r_pV hk rfl rfl ?_
  refine r_step hk rfl rfl rfl ?_
  refine r_step hk rfl rfl rfl ?_
  refine r_nV hk 200 rfl rfl rfl rfl rfl rfl ?_
  refine r_pV hk rfl rfl ?_
  refine r_step hk rfl rfl rfl ?_
  refine r_step hk rfl rfl rfl ?_
  refine r_nV hk 200 rfl rfl rfl rfl rfl rfl ?_
  refine r_pV hk rfl rfl ?_
  refine r_step hk rfl rfl rfl ?_
  refine r_step hk rfl rfl rfl ?_
  refine r_nV hk 200 rfl rfl rfl rfl rfl rfl ?_
  refine r_pV hk rfl rfl ?_
  refine r_step hk rfl rfl rfl ?_
  refine r_step hk rfl rfl rfl ?_
  refine r_nZ hk 200 rfl rfl rfl rfl rfl rfl ?_
  refine r_pV hk rfl rfl ?_
  refine r_step hk rfl rfl rfl ?_
  refine r_step hk rfl rfl rfl ?_
  refine r_pV hk rfl rfl ?_
  refine r_step hk rfl rfl rfl ?_
  refine r_step hk rfl rfl rfl ?_
  refine r_nVr hk 36 rfl rfl rfl rfl rfl ?_
  refine r_pV hk rfl rfl ?_
  refine r_step hk rfl rfl rfl ?_
  refine r_step hk rfl rfl rfl ?_
  refine r_nV hk 10 rfl rfl rfl rfl rfl rfl ?_
  refine r_pV hk rfl rfl ?_
  refine r_step hk rfl rfl rfl ?_
  refine r_step hk rfl rfl rfl ?_
  refine r_nZ hk 120 rfl rfl rfl rfl rfl rfl ?_
  refine r_pV hk rfl rfl ?_
  refine r_step hk rfl rfl rfl ?_
  refine r_step hk rfl rfl rfl ?_
  refine r_nZ hk 10 rfl rfl rfl rfl rfl rfl ?_
  refine r_pV hk rfl rfl ?_
  refine r_step hk rfl rfl rfl ?_
  refine r_step hk rfl rfl rfl ?_
  refine r_X gF_mod ?_
  refine gL_68 rfl rfl ?_
  iterate 2 refine r_step hk rfl rfl rfl ?_
  refine gL_69 rfl rfl ?_
  iterate 2 refine r_step hk rfl rfl rfl ?_
  refine gL_79 rfl rfl ?_
  refine r_ret hk rfl rfl ?_
  exact hQ _ _ ⟨rfl, _, by omega, rfl⟩
end GK3
