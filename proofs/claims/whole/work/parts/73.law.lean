/-! ===== the law's walk ===== -/
/-- a look by the law's own method: it answers, or it spends a cell -/
def gLookR (as : List Value) (S : gS) (v : Option Value) (S' : gS) : Prop :=
  ∃ v1 v2, as = [.ref 0, .int v1, .int v2, .ref 83] ∧
    ((∃ f x S1 fl, gER gMT gBI0 f 8 91 0 (gpad (gent [.ref 0, .int v1, .int v2]) 4) [] S (some (.int x)) S1 ∧ grcv S "GiftShops" [.ref 0] ∧ S1.2.2 83 = .inl (.long, 1, .inr (.inl fl)) ∧ v = some (.int 0) ∧ S' = (S1.1, S1.2.1, gset S1.2.2 83 (.inl (.long, 1, .inr (.inl (vp_updL fl 0 x.toInt64))))))
      ∨ (∃ N fs, S.2.2 0 = .inr (9, fs) ∧ fs[1]? = some (.int (nI N)) ∧ N ≤ 100 ∧ S.1 < 1000000 ∧ ¬ (gin v1 N ∧ gin v2 5) ∧ v = some (.int 1) ∧ S' = (S.1 + 1, S.2.1 + 6, S.2.2)))
def gBI1 : gB := fun j as S v S' => gBI0 j as S v S' ∨ (j = 1003 ∧ gLookR as S v S')
theorem gBI01 : ∀ j as S v S', gBI0 j as S v S' → gBI1 j as S v S' := fun _ _ _ _ _ h => Or.inl h
theorem gBI1_mono : gBmono gBI1 := by
  rintro j as S v S' (h | ⟨-, v1, v2, -, ⟨f, x, S1, fl, h1, -, -, -, rfl⟩ | ⟨N, fs, -, -, -, -, -, -, rfl⟩⟩)
  · exact gBI0_mono _ _ _ _ _ h
  · have hm := gER_mono gBI0_mono _ _ _ _ _ _ _ _ _ h1
    exact hm
  · exact ⟨Nat.le_add_right _ _, Nat.le_add_right _ _⟩
def gX1 (d k pc : Nat) (L : gL) (st : List Value) (S : gS) (Q : Option Value → gS → Prop) : Prop := ∃ f v S', gER gMT gBI1 f d k pc L st S v S' ∧ Q v S'
section GS1
variable {d k pc : Nat} {L : gL} {st : List Value} {S : gS} {Q : Option Value → gS → Prop} {row : gR}
theorem s_step (hk : gMT[k]? = some row) {i : Instr} {len : Nat} {ax : List Nat} {w : Value} {pc' : Nat} {L' : gL} {st' : List Value} {S1 : gS} (hq : glook row.2.2.2.2 pc = some (i, len, ax, w)) (hc : gcls i = 0) (hs : gstep i len ax w pc L st S = some (pc', L', st', S1)) (h : gX1 d k pc' L' st' S1 Q) : gX1 d k pc L st S Q := by
  obtain ⟨f, v, S', h1, h2⟩ := h
  refine ⟨f + 1, v, S', ?_, h2⟩
  unfold gER
  rw [hk]
  try dsimp only
  rw [hq]
  try dsimp only
  rw [hc]
  try dsimp only
  rw [hs]
  exact h1
theorem s_iret (hk : gMT[k]? = some row) {len : Nat} {ax : List Nat} {w : Value} {x : Int32} (hq : glook row.2.2.2.2 pc = some (.ireturn, len, ax, w)) (hn : grok row.2.2.2.1 x) (h : Q (some (.int x)) S) : gX1 d k pc L [.int x] S Q := by
  refine ⟨1, _, S, ?_, h⟩
  unfold gER
  rw [hk]
  try dsimp only
  rw [hq]
  exact ⟨x, rfl, rfl, rfl, hn⟩
theorem s_call (hk : gMT[k]? = some row) {i : Instr} {len j na : Nat} {ax : List Nat} {w : Value} (as rest : List Value) {P : Option Value → gS → Prop} (hq : glook row.2.2.2.2 pc = some (i, len, j :: na :: ax, w)) (hc : gcls i = 3) (hj : Nat.blt j 1000 = true) (hst : st = as.reverse ++ rest) (hna : as.length = na) (hcat : gcat rest ≤ 8) (hd : 1 ≤ d) (hE : gE (d - 1) j as S P) (hkind : ∀ cr, gMT[j]? = some cr → gkind i S cr.1.cls as)
    (h : ∀ v1 S1, P v1 S1 → gX1 d k (pc + 3) L (v1.toList ++ rest) S1 Q) : gX1 d k pc L st S Q := by
  obtain ⟨cr, hcr, hlen, f1, v1, S1, h1, hP⟩ := hE
  obtain ⟨f2, v, S', h2, hQ⟩ := h v1 S1 hP
  have hj2 : ¬ 1000 ≤ j := by
    have := Nat.ble_eq.mp hj
    omega
  subst hst
  subst hna
  have e1 : ((as.reverse ++ rest).take as.length).reverse = as := by
    rw [← List.length_reverse (as := as), List.take_left, List.reverse_reverse]
  have e2 : (as.reverse ++ rest).drop as.length = rest := by
    rw [← List.length_reverse (as := as), List.drop_left]
  refine ⟨f1 + f2 + 1, v, S', ?_, hQ⟩
  unfold gER
  rw [hk]
  try dsimp only
  rw [hq]
  try dsimp only
  rw [hc]
  dsimp only [gcallP]
  rw [e1, e2]
  refine ⟨by simp, hcat, v1, S1, ?_, gER_up (fun _ _ _ _ _ h => h) f2 (f1 + f2) d d k (pc + 3) L _ S1 v S' (by omega) (Nat.le_refl _) h2⟩
  rw [if_neg hj2]
  exact ⟨hd, cr, hcr, hlen, hkind cr hcr, gER_up gBI01 f1 (f1 + f2) (d - 1) (d - 1) j 0 _ [] S v1 S1 (by omega) (Nat.le_refl _) h1⟩
theorem s_callV (hk : gMT[k]? = some row) {idx len j na : Nat} {ax : List Nat} {w : Value} {cr : gR} (as rest : List Value) {P : Option Value → gS → Prop} (hq : glook row.2.2.2.2 pc = some (.invokevirtual idx, len, j :: na :: ax, w)) (hj : Nat.blt j 1000 = true) (hst : st = as.reverse ++ rest) (hna : as.length = na) (hcat : Nat.ble (gcat rest) 8 = true) (hcr : gMT[j]? = some cr) (hrc : grcv S cr.1.cls as) (hd : 1 ≤ d) (hE : gE (d - 1) j as S P)
    (h : ∀ v1 S1, P v1 S1 → gX1 d k (pc + 3) L (v1.toList ++ rest) S1 Q) : gX1 d k pc L st S Q :=
  s_call hk as rest hq rfl hj hst hna (Nat.ble_eq.mp hcat) hd hE (fun cr2 h2 => by cases hcr.symm.trans h2; exact hrc) h
theorem s_callI (hk : gMT[k]? = some row) {idx len j na : Nat} {ax : List Nat} {w : Value} (o : Nat) (as rest : List Value) {P : Option Value → gS → Prop} (hq : glook row.2.2.2.2 pc = some (.invokespecial idx, len, j :: na :: ax, w)) (hj : Nat.blt j 1000 = true) (hst : st = (.ref o :: as).reverse ++ rest) (hna : as.length + 1 = na) (hcat : Nat.ble (gcat rest) 8 = true) (hd : 1 ≤ d) (hE : gE (d - 1) j (.ref o :: as) S P)
    (h : ∀ v1 S1, P v1 S1 → gX1 d k (pc + 3) L (v1.toList ++ rest) S1 Q) : gX1 d k pc L st S Q :=
  s_call hk (.ref o :: as) rest hq rfl hj hst hna (Nat.ble_eq.mp hcat) hd hE (fun _ _ => ⟨o, as, rfl⟩) h
theorem s_bi (hk : gMT[k]? = some row) {i : Instr} {len j na : Nat} {ax : List Nat} {w : Value} (as rest : List Value) {v1 : Option Value} {S1 : gS} (hq : glook row.2.2.2.2 pc = some (i, len, j :: na :: ax, w)) (hc : gcls i = 3) (hj : Nat.ble 1000 j = true) (hst : st = as.reverse ++ rest) (hna : as.length = na) (hcat : Nat.ble (gcat rest) 8 = true) (hd : 10 ≤ d) (hB : gBI1 j as S v1 S1)
    (h : gX1 d k (pc + 3) L (v1.toList ++ rest) S1 Q) : gX1 d k pc L st S Q := by
  obtain ⟨f2, v, S', h2, hQ⟩ := h
  have hj2 : 1000 ≤ j := Nat.ble_eq.mp hj
  subst hst
  subst hna
  have e1 : ((as.reverse ++ rest).take as.length).reverse = as := by
    rw [← List.length_reverse (as := as), List.take_left, List.reverse_reverse]
  have e2 : (as.reverse ++ rest).drop as.length = rest := by
    rw [← List.length_reverse (as := as), List.drop_left]
  refine ⟨f2 + 1, v, S', ?_, hQ⟩
  unfold gER
  rw [hk]
  try dsimp only
  rw [hq]
  try dsimp only
  rw [hc]
  dsimp only [gcallP]
  rw [e1, e2]
  refine ⟨by simp, Nat.ble_eq.mp hcat, v1, S1, ?_, h2⟩
  rw [if_pos hj2]
  exact ⟨hd, hB⟩
theorem s_eq {x y : Int32} {t f : Nat} (h1 : x = y → gX1 d k t L st S Q) (h2 : ¬ x = y → gX1 d k f L st S Q) : gX1 d k (gbr .eq x y t f) L st S Q := by
  by_cases h : x = y
  · simp only [gbr, if_pos h]; exact h1 h
  · simp only [gbr, if_neg h]; exact h2 h
theorem s_ne {x y : Int32} {t f : Nat} (h1 : ¬ x = y → gX1 d k t L st S Q) (h2 : x = y → gX1 d k f L st S Q) : gX1 d k (gbr .ne x y t f) L st S Q := by
  by_cases h : x = y
  · simp only [gbr, if_neg (not_not_intro h)]; exact h2 h
  · simp only [gbr, if_pos h]; exact h1 h
theorem s_gt {x y : Int32} {t f : Nat} (h1 : y < x → gX1 d k t L st S Q) (h2 : ¬ y < x → gX1 d k f L st S Q) : gX1 d k (gbr .gt x y t f) L st S Q := by
  by_cases h : y < x
  · simp only [gbr, if_pos h]; exact h1 h
  · simp only [gbr, if_neg h]; exact h2 h
theorem s_swI (hk : gMT[k]? = some row) {dd lo hi : Int} {offs : Array Int} {len : Nat} {ax : List Nat} {w0 : Value} {x : Int32} (j : Nat) (hq : glook row.2.2.2.2 pc = some (.tableswitch dd lo hi offs, len, ax, w0)) (hx : x.toInt = lo + j) (hj : lo + j ≤ hi) (h : gX1 d k (gax ax (j + 1)) L st S Q) : gX1 d k pc L (.int x :: st) S Q := by
  refine s_step hk hq rfl ?_ h
  simp only [gstep, gsw, hx]
  rw [if_neg (by omega)]
  have : (lo + j - lo).toNat = j := by omega
  rw [this]
theorem s_swD (hk : gMT[k]? = some row) {dd lo hi : Int} {offs : Array Int} {len : Nat} {ax : List Nat} {w0 : Value} {x : Int32} (hq : glook row.2.2.2.2 pc = some (.tableswitch dd lo hi offs, len, ax, w0)) (hx : x.toInt < lo ∨ hi < x.toInt) (h : gX1 d k (gax ax 0) L st S Q) : gX1 d k pc L (.int x :: st) S Q := by
  refine s_step hk hq rfl ?_ h
  simp only [gstep, gsw]
  rw [if_pos hx]
theorem s_sc (hk : gMT[k]? = some row) {len N : Nat} {ax : List Nat} {w0 : Value} {sc : Nat → Int32} (i : Nat) {x : Int32} (hq : glook row.2.2.2.2 pc = some (.iaload, len, ax, w0)) (hs : S.2.2 1000000000 = .inl (.int, N, .inl sc)) (hx : x = nI i) (hi : i < N) (hN : N ≤ 4000) (h : gX1 d k (pc + 1) L (.int (sc i) :: st) S Q) : gX1 d k pc L (.int x :: .ref 1000000000 :: st) S Q := by
  subst hx
  refine s_step hk hq rfl ?_ h
  simp only [gstep, giald, hs]
  rw [if_pos ⟨trivial, g_ix hi (by omega)⟩, nI_clamp (by omega)]
theorem s_alen (hk : gMT[k]? = some row) {len N : Nat} {ax : List Nat} {w0 : Value} {sc : Nat → Int32} (hq : glook row.2.2.2.2 pc = some (.arraylength, len, ax, w0)) (hs : S.2.2 1000000000 = .inl (.int, N, .inl sc)) (h : gX1 d k (pc + 1) L (.int (nI N) :: st) S Q) : gX1 d k pc L (.ref 1000000000 :: st) S Q :=
  s_step hk hq rfl (by simp only [gstep, galen, hs]; rfl) h
theorem s_new (hk : gMT[k]? = some row) {idx len ci ps : Nat} {w : Value} {q : vw_C} (hq : glook row.2.2.2.2 pc = some (.new idx, len, [ci, ps], w)) (hc : gcl[ci]? = some q) (hn : S.1 < 1000000) (h : gX1 d k (pc + 3) L (.ref S.1 :: st) (S.1 + 1, S.2.1 + q.2.2, gset S.2.2 S.1 (.inr (ci, gdv ci q.2.2))) Q) : gX1 d k pc L st S Q :=
  s_step hk hq rfl (by simp only [gstep, gnew, hc, if_pos hn]) h
theorem s_nJ (hk : gMT[k]? = some row) {n u : Nat} {h : gH} (N : Nat) {x : Int32} {len : Nat} {ax : List Nat} {v0 : Value} (hq : glook row.2.2.2.2 pc = some (.newarray .long, len, ax, v0)) (hx : x = nI N) (hN : Nat.ble N 2000 = true) (hn : Nat.blt n 1000000 = true) (hh : gX1 d k (pc + 2) L (.ref n :: st) (n + 1, u + N, gset h n (.inl (.long, N, .inr (.inl (fun _ => 0))))) Q) : gX1 d k pc L (.int x :: st) (n, u, h) Q := by
  subst hx
  refine s_step hk hq rfl ?_ hh
  simp only [gstep, gnewa]
  rw [if_neg (gnew_ok hN hn), gcl_N hN]
end GS1
def jlg (x y : Int32) : Int64 := (x.toInt64 <<< ((32 : Int32).toInt64 &&& 63)) ||| (y.toInt64 &&& 4294967295)
theorem j_gt {t len : Nat} (h : ¬ 7 * t + 7 ≤ len) (ht : 7 * t ≤ 4000) : nI len - 7 < nI (7 * t) := by
  refine Int32.lt_iff_toInt_lt.mpr ?_
  have e : (nI len - 7).toInt = (len : Int) - 7 := pk_sub_toInt (a := len) (b := 7) (by omega) (by decide)
  rw [e, nI_toInt (by omega)]
  omega
theorem j_ngt {t len : Nat} (h : 7 * t + 7 ≤ len) (ht : len ≤ 4000) : ¬ nI len - 7 < nI (7 * t) := by
  intro hc
  have h1 := Int32.lt_iff_toInt_lt.mp hc
  have e : (nI len - 7).toInt = (len : Int) - 7 := pk_sub_toInt (a := len) (b := 7) (by omega) (by decide)
  rw [e, nI_toInt (by omega)] at h1
  omega
theorem j_cmp (x : Int64) : lg_cmp x x = 0 := by
  unfold lg_cmp
  simp
theorem J_scr1 {n u len : Nat} {y : gH} {w a : Nat → Nat → Int32} {b : Nat → Nat → Int64} {r : Nat → Nat → Nat} {q : Nat → Nat → Option Nat} {D : Nat → Nat} {x : Nat → Nat → Int32} {z : Nat → Nat} {sc : Nat → Int32} (hD : D 1000000000 = 0) (hy : y 1000000000 = .inl (.int, len, .inl sc)) : ((n, u, HP w a b r q (gY D x z y)) : gS).2.2 1000000000 = .inl (.int, len, .inl sc) := by
  show HP w a b r q (gY D x z y) 1000000000 = _
  rw [HP_dyn (by omega)]
  simp only [gY, hD]
  exact hy
theorem J_scr {K len : Nat} {y : gH} {S : gS} {sc : Nat → Int32} (h : J K y S) (hy : y 1000000000 = .inl (.int, len, .inl sc)) : S.2.2 1000000000 = .inl (.int, len, .inl sc) := by
  obtain ⟨n, u, w, a, b, r, q, D, x, z, N, M, T, o, p, st, rfl, h0⟩ := h
  exact J_scr1 h0.2.2.2.1 hy
theorem J_up {K : Nat} {y : gH} {S : gS} (h : J K y S) : J (K + 1) y S := by
  obtain ⟨n, u, w, a, b, r, q, D, x, z, N, M, T, o, p, st, rfl, h0⟩ := h
  exact J_of (jI_fr h0 jfw_rf gag_rf rfl (Nat.le_refl _) (by omega) (by omega))
section GS2
variable {d : Nat} {y : gH} {S : gS} {Q : Option Value → gS → Prop}
set_option maxRecDepth 20000 in
theorem lw_give {t len : Nat} {l5 l6 : Option Value} {sc : Nat → Int32} (hd : 60 ≤ d) (hK : t ≤ 600) (hy : y 1000000000 = .inl (.int, len, .inl sc)) (hlen : len ≤ 4000) (ht : 7 * t + 7 ≤ len) (h : J t y S) (hc : ∀ S2, J (t + 1) y S2 → gX1 d 162 1119 [some (.ref 1000000000), some (.ref 0), some (.ref 44), some (.ref 83), some (.int (nI (7 * t))), l5, l6] [] S2 Q) : gX1 d 162 160 [some (.ref 1000000000), some (.ref 0), some (.ref 44), some (.ref 83), some (.int (nI (7 * t))), l5, l6] [] S Q := by
  have hk : gMT[162]? = some gro_162 := rfl
  have hs := J_scr h hy
  iterate 5 refine s_step hk rfl rfl rfl ?_
  refine s_sc hk (7 * t + 1) rfl hs (nI_add (7 * t) 1) (by omega) hlen ?_
  iterate 4 refine s_step hk rfl rfl rfl ?_
  refine s_sc hk (7 * t + 2) rfl hs (nI_add (7 * t) 2) (by omega) hlen ?_
  iterate 4 refine s_step hk rfl rfl rfl ?_
  refine s_sc hk (7 * t + 3) rfl hs (nI_add (7 * t) 3) (by omega) hlen ?_
  iterate 4 refine s_step hk rfl rfl rfl ?_
  refine s_sc hk (7 * t + 4) rfl hs (nI_add (7 * t) 4) (by omega) hlen ?_
  obtain ⟨n, u, w, a, b, r, q, D, x, z, N, M, T, o, p, st, rfl, h0⟩ := id h
  refine s_callV hk [.ref 0, .int (sc (7 * t + 1)), .int (sc (7 * t + 2)), .int (sc (7 * t + 3)), .int (sc (7 * t + 4))] [] rfl rfl rfl rfl rfl rfl rfl (by omega) (j_give (by omega) hK h _ _ _ _) ?_
  rintro _ _ ⟨c, rfl, ⟨n1, u1, w1, a1, b1, r1, q1, D1, x1, z1, rfl, hD1⟩, hm⟩
  have hs1 := J_scr1 (n := n1) (u := u1) (w := w1) (a := a1) (b := b1) (r := r1) (q := q1) (x := x1) (z := z1) hD1 hy
  iterate 5 refine s_step hk rfl rfl rfl ?_
  refine s_sc hk (7 * t + 1) rfl hs1 (nI_add (7 * t) 1) (by omega) hlen ?_
  iterate 4 refine s_step hk rfl rfl rfl ?_
  refine s_sc hk (7 * t + 2) rfl hs1 (nI_add (7 * t) 2) (by omega) hlen ?_
  iterate 4 refine s_step hk rfl rfl rfl ?_
  refine s_sc hk (7 * t + 3) rfl hs1 (nI_add (7 * t) 3) (by omega) hlen ?_
  iterate 4 refine s_step hk rfl rfl rfl ?_
  refine s_sc hk (7 * t + 4) rfl hs1 (nI_add (7 * t) 4) (by omega) hlen ?_
  refine s_callV hk [.ref 44, .int (sc (7 * t + 1)), .int (sc (7 * t + 2)), .int (sc (7 * t + 3)), .int (sc (7 * t + 4))] [.int c] rfl rfl rfl rfl rfl rfl rfl (by omega) hm ?_
  rintro _ _ ⟨rfl, hJ⟩
  refine s_step hk rfl rfl rfl ?_
  exact s_eq (fun _ => hc _ hJ) (fun hq9 => absurd rfl hq9)
set_option maxRecDepth 20000 in
theorem lw_shelf {t len : Nat} {l5 l6 : Option Value} {sc : Nat → Int32} (hd : 60 ≤ d) (hy : y 1000000000 = .inl (.int, len, .inl sc)) (hlen : len ≤ 4000) (ht : 7 * t + 7 ≤ len) (h : J t y S) (hc : ∀ S2, J (t + 1) y S2 → gX1 d 162 1119 [some (.ref 1000000000), some (.ref 0), some (.ref 44), some (.ref 83), some (.int (nI (7 * t))), l5, l6] [] S2 Q) : gX1 d 162 221 [some (.ref 1000000000), some (.ref 0), some (.ref 44), some (.ref 83), some (.int (nI (7 * t))), l5, l6] [] S Q := by
  have hk : gMT[162]? = some gro_162 := rfl
  have hs := J_scr h hy
  iterate 5 refine s_step hk rfl rfl rfl ?_
  refine s_sc hk (7 * t + 1) rfl hs (nI_add (7 * t) 1) (by omega) hlen ?_
  iterate 4 refine s_step hk rfl rfl rfl ?_
  refine s_sc hk (7 * t + 2) rfl hs (nI_add (7 * t) 2) (by omega) hlen ?_
  obtain ⟨n, u, w, a, b, r, q, D, x, z, N, M, T, o, p, st, rfl, h0⟩ := id h
  refine s_callV hk [.ref 0, .int (sc (7 * t + 1)), .int (sc (7 * t + 2))] [] rfl rfl rfl rfl rfl rfl rfl (by omega) (j_shelf (by omega) h _ _) ?_
  rintro _ _ ⟨c, rfl, ⟨n1, u1, w1, a1, b1, r1, q1, D1, x1, z1, rfl, hD1⟩, hm⟩
  have hs1 := J_scr1 (n := n1) (u := u1) (w := w1) (a := a1) (b := b1) (r := r1) (q := q1) (x := x1) (z := z1) hD1 hy
  iterate 5 refine s_step hk rfl rfl rfl ?_
  refine s_sc hk (7 * t + 1) rfl hs1 (nI_add (7 * t) 1) (by omega) hlen ?_
  iterate 4 refine s_step hk rfl rfl rfl ?_
  refine s_sc hk (7 * t + 2) rfl hs1 (nI_add (7 * t) 2) (by omega) hlen ?_
  refine s_callV hk [.ref 44, .int (sc (7 * t + 1)), .int (sc (7 * t + 2))] [.int c] rfl rfl rfl rfl rfl rfl rfl (by omega) hm ?_
  rintro _ _ ⟨rfl, hJ⟩
  refine s_step hk rfl rfl rfl ?_
  exact s_eq (fun _ => hc _ hJ) (fun hq9 => absurd rfl hq9)
set_option maxRecDepth 20000 in
theorem lw_base {t len : Nat} {l5 l6 : Option Value} {sc : Nat → Int32} (hd : 60 ≤ d) (hy : y 1000000000 = .inl (.int, len, .inl sc)) (hlen : len ≤ 4000) (ht : 7 * t + 7 ≤ len) (h : J t y S) (hc : ∀ S2, J (t + 1) y S2 → gX1 d 162 1119 [some (.ref 1000000000), some (.ref 0), some (.ref 44), some (.ref 83), some (.int (nI (7 * t))), l5, l6] [] S2 Q) : gX1 d 162 258 [some (.ref 1000000000), some (.ref 0), some (.ref 44), some (.ref 83), some (.int (nI (7 * t))), l5, l6] [] S Q := by
  have hk : gMT[162]? = some gro_162 := rfl
  have hs := J_scr h hy
  iterate 5 refine s_step hk rfl rfl rfl ?_
  refine s_sc hk (7 * t + 1) rfl hs (nI_add (7 * t) 1) (by omega) hlen ?_
  iterate 4 refine s_step hk rfl rfl rfl ?_
  refine s_sc hk (7 * t + 2) rfl hs (nI_add (7 * t) 2) (by omega) hlen ?_
  obtain ⟨n, u, w, a, b, r, q, D, x, z, N, M, T, o, p, st, rfl, h0⟩ := id h
  refine s_callV hk [.ref 0, .int (sc (7 * t + 1)), .int (sc (7 * t + 2))] [] rfl rfl rfl rfl rfl rfl rfl (by omega) (j_base (by omega) h _ _) ?_
  rintro _ _ ⟨c, rfl, ⟨n1, u1, w1, a1, b1, r1, q1, D1, x1, z1, rfl, hD1⟩, hm⟩
  have hs1 := J_scr1 (n := n1) (u := u1) (w := w1) (a := a1) (b := b1) (r := r1) (q := q1) (x := x1) (z := z1) hD1 hy
  iterate 5 refine s_step hk rfl rfl rfl ?_
  refine s_sc hk (7 * t + 1) rfl hs1 (nI_add (7 * t) 1) (by omega) hlen ?_
  iterate 4 refine s_step hk rfl rfl rfl ?_
  refine s_sc hk (7 * t + 2) rfl hs1 (nI_add (7 * t) 2) (by omega) hlen ?_
  refine s_callV hk [.ref 44, .int (sc (7 * t + 1)), .int (sc (7 * t + 2))] [.int c] rfl rfl rfl rfl rfl rfl rfl (by omega) hm ?_
  rintro _ _ ⟨rfl, hJ⟩
  refine s_step hk rfl rfl rfl ?_
  exact s_eq (fun _ => hc _ hJ) (fun hq9 => absurd rfl hq9)
set_option maxRecDepth 20000 in
theorem lw_feed {t len : Nat} {l5 l6 : Option Value} {sc : Nat → Int32} (hd : 60 ≤ d) (hy : y 1000000000 = .inl (.int, len, .inl sc)) (hlen : len ≤ 4000) (ht : 7 * t + 7 ≤ len) (h : J t y S) (hc : ∀ S2, J (t + 1) y S2 → gX1 d 162 1119 [some (.ref 1000000000), some (.ref 0), some (.ref 44), some (.ref 83), some (.int (nI (7 * t))), l5, l6] [] S2 Q) : gX1 d 162 295 [some (.ref 1000000000), some (.ref 0), some (.ref 44), some (.ref 83), some (.int (nI (7 * t))), l5, l6] [] S Q := by
  have hk : gMT[162]? = some gro_162 := rfl
  have hs := J_scr h hy
  iterate 5 refine s_step hk rfl rfl rfl ?_
  refine s_sc hk (7 * t + 1) rfl hs (nI_add (7 * t) 1) (by omega) hlen ?_
  iterate 7 refine s_step hk rfl rfl rfl ?_
  refine s_sc hk (7 * t + 2) rfl hs (nI_add (7 * t) 2) (by omega) hlen ?_
  iterate 8 refine s_step hk rfl rfl rfl ?_
  refine s_sc hk (7 * t + 3) rfl hs (nI_add (7 * t) 3) (by omega) hlen ?_
  iterate 7 refine s_step hk rfl rfl rfl ?_
  refine s_sc hk (7 * t + 4) rfl hs (nI_add (7 * t) 4) (by omega) hlen ?_
  iterate 8 refine s_step hk rfl rfl rfl ?_
  refine s_sc hk (7 * t + 5) rfl hs (nI_add (7 * t) 5) (by omega) hlen ?_
  iterate 7 refine s_step hk rfl rfl rfl ?_
  refine s_sc hk (7 * t + 6) rfl hs (nI_add (7 * t) 6) (by omega) hlen ?_
  iterate 4 refine s_step hk rfl rfl rfl ?_
  obtain ⟨n, u, w, a, b, r, q, D, x, z, N, M, T, o, p, st, rfl, h0⟩ := id h
  refine s_callV hk [.ref 0, .long (jlg (sc (7 * t + 1)) (sc (7 * t + 2))), .long (jlg (sc (7 * t + 3)) (sc (7 * t + 4))), .long (jlg (sc (7 * t + 5)) (sc (7 * t + 6)))] [] rfl rfl rfl rfl rfl rfl rfl (by omega) (j_feed (by omega) h _ _ _) ?_
  rintro _ _ ⟨c, rfl, ⟨n1, u1, w1, a1, b1, r1, q1, D1, x1, z1, rfl, hD1⟩, hm⟩
  have hs1 := J_scr1 (n := n1) (u := u1) (w := w1) (a := a1) (b := b1) (r := r1) (q := q1) (x := x1) (z := z1) hD1 hy
  iterate 5 refine s_step hk rfl rfl rfl ?_
  refine s_sc hk (7 * t + 1) rfl hs1 (nI_add (7 * t) 1) (by omega) hlen ?_
  iterate 7 refine s_step hk rfl rfl rfl ?_
  refine s_sc hk (7 * t + 2) rfl hs1 (nI_add (7 * t) 2) (by omega) hlen ?_
  iterate 8 refine s_step hk rfl rfl rfl ?_
  refine s_sc hk (7 * t + 3) rfl hs1 (nI_add (7 * t) 3) (by omega) hlen ?_
  iterate 7 refine s_step hk rfl rfl rfl ?_
  refine s_sc hk (7 * t + 4) rfl hs1 (nI_add (7 * t) 4) (by omega) hlen ?_
  iterate 8 refine s_step hk rfl rfl rfl ?_
  refine s_sc hk (7 * t + 5) rfl hs1 (nI_add (7 * t) 5) (by omega) hlen ?_
  iterate 7 refine s_step hk rfl rfl rfl ?_
  refine s_sc hk (7 * t + 6) rfl hs1 (nI_add (7 * t) 6) (by omega) hlen ?_
  iterate 4 refine s_step hk rfl rfl rfl ?_
  refine s_callV hk [.ref 44, .long (jlg (sc (7 * t + 1)) (sc (7 * t + 2))), .long (jlg (sc (7 * t + 3)) (sc (7 * t + 4))), .long (jlg (sc (7 * t + 5)) (sc (7 * t + 6)))] [.int c] rfl rfl rfl rfl rfl rfl rfl (by omega) hm ?_
  rintro _ _ ⟨rfl, hJ⟩
  refine s_step hk rfl rfl rfl ?_
  exact s_eq (fun _ => hc _ hJ) (fun hq9 => absurd rfl hq9)
set_option maxRecDepth 20000 in
theorem lw_text {t len : Nat} {l5 l6 : Option Value} {sc : Nat → Int32} (hd : 60 ≤ d) (hy : y 1000000000 = .inl (.int, len, .inl sc)) (hlen : len ≤ 4000) (ht : 7 * t + 7 ≤ len) (h : J t y S) (hc : ∀ S2, J (t + 1) y S2 → gX1 d 162 1119 [some (.ref 1000000000), some (.ref 0), some (.ref 44), some (.ref 83), some (.int (nI (7 * t))), l5, l6] [] S2 Q) : gX1 d 162 442 [some (.ref 1000000000), some (.ref 0), some (.ref 44), some (.ref 83), some (.int (nI (7 * t))), l5, l6] [] S Q := by
  have hk : gMT[162]? = some gro_162 := rfl
  have hs := J_scr h hy
  refine s_step hk rfl rfl rfl ?_
  obtain ⟨n, u, w, a, b, r, q, D, x, z, N, M, T, o, p, st, rfl, h0⟩ := id h
  refine s_callV hk [.ref 0] [] rfl rfl rfl rfl rfl rfl rfl (by omega) (j_text (by omega) h ) ?_
  rintro _ _ ⟨c, rfl, ⟨n1, u1, w1, a1, b1, r1, q1, D1, x1, z1, rfl, hD1⟩, hm⟩
  have hs1 := J_scr1 (n := n1) (u := u1) (w := w1) (a := a1) (b := b1) (r := r1) (q := q1) (x := x1) (z := z1) hD1 hy
  refine s_step hk rfl rfl rfl ?_
  refine s_callV hk [.ref 44] [.int c] rfl rfl rfl rfl rfl rfl rfl (by omega) hm ?_
  rintro _ _ ⟨rfl, hJ⟩
  refine s_step hk rfl rfl rfl ?_
  exact s_eq (fun _ => hc _ hJ) (fun hq9 => absurd rfl hq9)
set_option maxRecDepth 20000 in
theorem lw_sort {t len : Nat} {l5 l6 : Option Value} {sc : Nat → Int32} (hd : 60 ≤ d) (hy : y 1000000000 = .inl (.int, len, .inl sc)) (hlen : len ≤ 4000) (ht : 7 * t + 7 ≤ len) (h : J t y S) (hc : ∀ S2, J (t + 1) y S2 → gX1 d 162 1119 [some (.ref 1000000000), some (.ref 0), some (.ref 44), some (.ref 83), some (.int (nI (7 * t))), l5, l6] [] S2 Q) : gX1 d 162 455 [some (.ref 1000000000), some (.ref 0), some (.ref 44), some (.ref 83), some (.int (nI (7 * t))), l5, l6] [] S Q := by
  have hk : gMT[162]? = some gro_162 := rfl
  have hs := J_scr h hy
  iterate 5 refine s_step hk rfl rfl rfl ?_
  refine s_sc hk (7 * t + 1) rfl hs (nI_add (7 * t) 1) (by omega) hlen ?_
  iterate 4 refine s_step hk rfl rfl rfl ?_
  refine s_sc hk (7 * t + 2) rfl hs (nI_add (7 * t) 2) (by omega) hlen ?_
  obtain ⟨n, u, w, a, b, r, q, D, x, z, N, M, T, o, p, st, rfl, h0⟩ := id h
  refine s_callV hk [.ref 0, .int (sc (7 * t + 1)), .int (sc (7 * t + 2))] [] rfl rfl rfl rfl rfl rfl rfl (by omega) (j_sort (by omega) h _ _) ?_
  rintro _ _ ⟨c, rfl, ⟨n1, u1, w1, a1, b1, r1, q1, D1, x1, z1, rfl, hD1⟩, hm⟩
  have hs1 := J_scr1 (n := n1) (u := u1) (w := w1) (a := a1) (b := b1) (r := r1) (q := q1) (x := x1) (z := z1) hD1 hy
  iterate 5 refine s_step hk rfl rfl rfl ?_
  refine s_sc hk (7 * t + 1) rfl hs1 (nI_add (7 * t) 1) (by omega) hlen ?_
  iterate 4 refine s_step hk rfl rfl rfl ?_
  refine s_sc hk (7 * t + 2) rfl hs1 (nI_add (7 * t) 2) (by omega) hlen ?_
  refine s_callV hk [.ref 44, .int (sc (7 * t + 1)), .int (sc (7 * t + 2))] [.int c] rfl rfl rfl rfl rfl rfl rfl (by omega) hm ?_
  rintro _ _ ⟨rfl, hJ⟩
  refine s_step hk rfl rfl rfl ?_
  exact s_eq (fun _ => hc _ hJ) (fun hq9 => absurd rfl hq9)
set_option maxRecDepth 20000 in
theorem lw_says {t len : Nat} {l5 l6 : Option Value} {sc : Nat → Int32} (hd : 60 ≤ d) (hy : y 1000000000 = .inl (.int, len, .inl sc)) (hlen : len ≤ 4000) (ht : 7 * t + 7 ≤ len) (h : J t y S) (hc : ∀ S2, J (t + 1) y S2 → gX1 d 162 1119 [some (.ref 1000000000), some (.ref 0), some (.ref 44), some (.ref 83), some (.int (nI (7 * t))), l5, l6] [] S2 Q) : gX1 d 162 492 [some (.ref 1000000000), some (.ref 0), some (.ref 44), some (.ref 83), some (.int (nI (7 * t))), l5, l6] [] S Q := by
  have hk : gMT[162]? = some gro_162 := rfl
  have hs := J_scr h hy
  iterate 5 refine s_step hk rfl rfl rfl ?_
  refine s_sc hk (7 * t + 1) rfl hs (nI_add (7 * t) 1) (by omega) hlen ?_
  iterate 4 refine s_step hk rfl rfl rfl ?_
  refine s_sc hk (7 * t + 2) rfl hs (nI_add (7 * t) 2) (by omega) hlen ?_
  iterate 4 refine s_step hk rfl rfl rfl ?_
  refine s_sc hk (7 * t + 3) rfl hs (nI_add (7 * t) 3) (by omega) hlen ?_
  obtain ⟨n, u, w, a, b, r, q, D, x, z, N, M, T, o, p, st, rfl, h0⟩ := id h
  refine s_callV hk [.ref 0, .int (sc (7 * t + 1)), .int (sc (7 * t + 2)), .int (sc (7 * t + 3))] [] rfl rfl rfl rfl rfl rfl rfl (by omega) (j_says (by omega) h _ _ _) ?_
  rintro _ _ ⟨c, rfl, ⟨n1, u1, w1, a1, b1, r1, q1, D1, x1, z1, rfl, hD1⟩, hm⟩
  have hs1 := J_scr1 (n := n1) (u := u1) (w := w1) (a := a1) (b := b1) (r := r1) (q := q1) (x := x1) (z := z1) hD1 hy
  iterate 5 refine s_step hk rfl rfl rfl ?_
  refine s_sc hk (7 * t + 1) rfl hs1 (nI_add (7 * t) 1) (by omega) hlen ?_
  iterate 4 refine s_step hk rfl rfl rfl ?_
  refine s_sc hk (7 * t + 2) rfl hs1 (nI_add (7 * t) 2) (by omega) hlen ?_
  iterate 4 refine s_step hk rfl rfl rfl ?_
  refine s_sc hk (7 * t + 3) rfl hs1 (nI_add (7 * t) 3) (by omega) hlen ?_
  refine s_callV hk [.ref 44, .int (sc (7 * t + 1)), .int (sc (7 * t + 2)), .int (sc (7 * t + 3))] [.int c] rfl rfl rfl rfl rfl rfl rfl (by omega) hm ?_
  rintro _ _ ⟨rfl, hJ⟩
  refine s_step hk rfl rfl rfl ?_
  exact s_eq (fun _ => hc _ hJ) (fun hq9 => absurd rfl hq9)
set_option maxRecDepth 20000 in
theorem lw_habit {t len : Nat} {l5 l6 : Option Value} {sc : Nat → Int32} (hd : 60 ≤ d) (hK : t ≤ 600) (hy : y 1000000000 = .inl (.int, len, .inl sc)) (hlen : len ≤ 4000) (ht : 7 * t + 7 ≤ len) (h : J t y S) (hc : ∀ S2, J (t + 1) y S2 → gX1 d 162 1119 [some (.ref 1000000000), some (.ref 0), some (.ref 44), some (.ref 83), some (.int (nI (7 * t))), l5, l6] [] S2 Q) : gX1 d 162 541 [some (.ref 1000000000), some (.ref 0), some (.ref 44), some (.ref 83), some (.int (nI (7 * t))), l5, l6] [] S Q := by
  have hk : gMT[162]? = some gro_162 := rfl
  have hs := J_scr h hy
  iterate 5 refine s_step hk rfl rfl rfl ?_
  refine s_sc hk (7 * t + 1) rfl hs (nI_add (7 * t) 1) (by omega) hlen ?_
  obtain ⟨n, u, w, a, b, r, q, D, x, z, N, M, T, o, p, st, rfl, h0⟩ := id h
  refine s_callV hk [.ref 0, .int (sc (7 * t + 1))] [] rfl rfl rfl rfl rfl rfl rfl (by omega) (j_habit (by omega) hK h _) ?_
  rintro _ _ ⟨c, rfl, ⟨n1, u1, w1, a1, b1, r1, q1, D1, x1, z1, rfl, hD1⟩, hm⟩
  have hs1 := J_scr1 (n := n1) (u := u1) (w := w1) (a := a1) (b := b1) (r := r1) (q := q1) (x := x1) (z := z1) hD1 hy
  iterate 5 refine s_step hk rfl rfl rfl ?_
  refine s_sc hk (7 * t + 1) rfl hs1 (nI_add (7 * t) 1) (by omega) hlen ?_
  refine s_callV hk [.ref 44, .int (sc (7 * t + 1))] [.int c] rfl rfl rfl rfl rfl rfl rfl (by omega) hm ?_
  rintro _ _ ⟨rfl, hJ⟩
  refine s_step hk rfl rfl rfl ?_
  exact s_eq (fun _ => hc _ hJ) (fun hq9 => absurd rfl hq9)
set_option maxRecDepth 20000 in
theorem lw_weeks {t len : Nat} {l5 l6 : Option Value} {sc : Nat → Int32} (hd : 60 ≤ d) (hy : y 1000000000 = .inl (.int, len, .inl sc)) (hlen : len ≤ 4000) (ht : 7 * t + 7 ≤ len) (h : J t y S) (hc : ∀ S2, J (t + 1) y S2 → gX1 d 162 1119 [some (.ref 1000000000), some (.ref 0), some (.ref 44), some (.ref 83), some (.int (nI (7 * t))), l5, l6] [] S2 Q) : gX1 d 162 566 [some (.ref 1000000000), some (.ref 0), some (.ref 44), some (.ref 83), some (.int (nI (7 * t))), l5, l6] [] S Q := by
  have hk : gMT[162]? = some gro_162 := rfl
  have hs := J_scr h hy
  iterate 5 refine s_step hk rfl rfl rfl ?_
  refine s_sc hk (7 * t + 1) rfl hs (nI_add (7 * t) 1) (by omega) hlen ?_
  obtain ⟨n, u, w, a, b, r, q, D, x, z, N, M, T, o, p, st, rfl, h0⟩ := id h
  refine s_callV hk [.ref 0, .int (sc (7 * t + 1))] [] rfl rfl rfl rfl rfl rfl rfl (by omega) (j_weeks (by omega) h _) ?_
  rintro _ _ ⟨c, rfl, ⟨n1, u1, w1, a1, b1, r1, q1, D1, x1, z1, rfl, hD1⟩, hm⟩
  have hs1 := J_scr1 (n := n1) (u := u1) (w := w1) (a := a1) (b := b1) (r := r1) (q := q1) (x := x1) (z := z1) hD1 hy
  iterate 5 refine s_step hk rfl rfl rfl ?_
  refine s_sc hk (7 * t + 1) rfl hs1 (nI_add (7 * t) 1) (by omega) hlen ?_
  refine s_callV hk [.ref 44, .int (sc (7 * t + 1))] [.int c] rfl rfl rfl rfl rfl rfl rfl (by omega) hm ?_
  rintro _ _ ⟨rfl, hJ⟩
  refine s_step hk rfl rfl rfl ?_
  exact s_eq (fun _ => hc _ hJ) (fun hq9 => absurd rfl hq9)
set_option maxRecDepth 20000 in
theorem lw_price {t len : Nat} {l5 l6 : Option Value} {sc : Nat → Int32} (hd : 60 ≤ d) (hy : y 1000000000 = .inl (.int, len, .inl sc)) (hlen : len ≤ 4000) (ht : 7 * t + 7 ≤ len) (h : J t y S) (hc : ∀ S2, J (t + 1) y S2 → gX1 d 162 1119 [some (.ref 1000000000), some (.ref 0), some (.ref 44), some (.ref 83), some (.int (nI (7 * t))), l5, l6] [] S2 Q) : gX1 d 162 591 [some (.ref 1000000000), some (.ref 0), some (.ref 44), some (.ref 83), some (.int (nI (7 * t))), l5, l6] [] S Q := by
  have hk : gMT[162]? = some gro_162 := rfl
  have hs := J_scr h hy
  iterate 5 refine s_step hk rfl rfl rfl ?_
  refine s_sc hk (7 * t + 1) rfl hs (nI_add (7 * t) 1) (by omega) hlen ?_
  obtain ⟨n, u, w, a, b, r, q, D, x, z, N, M, T, o, p, st, rfl, h0⟩ := id h
  refine s_callV hk [.ref 0, .int (sc (7 * t + 1))] [] rfl rfl rfl rfl rfl rfl rfl (by omega) (j_price (by omega) h _) ?_
  rintro _ _ ⟨c, rfl, ⟨n1, u1, w1, a1, b1, r1, q1, D1, x1, z1, rfl, hD1⟩, hm⟩
  have hs1 := J_scr1 (n := n1) (u := u1) (w := w1) (a := a1) (b := b1) (r := r1) (q := q1) (x := x1) (z := z1) hD1 hy
  iterate 5 refine s_step hk rfl rfl rfl ?_
  refine s_sc hk (7 * t + 1) rfl hs1 (nI_add (7 * t) 1) (by omega) hlen ?_
  refine s_callV hk [.ref 44, .int (sc (7 * t + 1))] [.int c] rfl rfl rfl rfl rfl rfl rfl (by omega) hm ?_
  rintro _ _ ⟨rfl, hJ⟩
  refine s_step hk rfl rfl rfl ?_
  exact s_eq (fun _ => hc _ hJ) (fun hq9 => absurd rfl hq9)
set_option maxRecDepth 20000 in
theorem lw_sell {t len : Nat} {l5 l6 : Option Value} {sc : Nat → Int32} (hd : 60 ≤ d) (hK : t ≤ 600) (hy : y 1000000000 = .inl (.int, len, .inl sc)) (hlen : len ≤ 4000) (ht : 7 * t + 7 ≤ len) (h : J t y S) (hc : ∀ S2, J (t + 1) y S2 → gX1 d 162 1119 [some (.ref 1000000000), some (.ref 0), some (.ref 44), some (.ref 83), some (.int (nI (7 * t))), l5, l6] [] S2 Q) : gX1 d 162 616 [some (.ref 1000000000), some (.ref 0), some (.ref 44), some (.ref 83), some (.int (nI (7 * t))), l5, l6] [] S Q := by
  have hk : gMT[162]? = some gro_162 := rfl
  have hs := J_scr h hy
  iterate 5 refine s_step hk rfl rfl rfl ?_
  refine s_sc hk (7 * t + 1) rfl hs (nI_add (7 * t) 1) (by omega) hlen ?_
  obtain ⟨n, u, w, a, b, r, q, D, x, z, N, M, T, o, p, st, rfl, h0⟩ := id h
  refine s_callV hk [.ref 0, .int (sc (7 * t + 1))] [] rfl rfl rfl rfl rfl rfl rfl (by omega) (j_sell (by omega) hK h _) ?_
  rintro _ _ ⟨c, rfl, ⟨n1, u1, w1, a1, b1, r1, q1, D1, x1, z1, rfl, hD1⟩, hm⟩
  have hs1 := J_scr1 (n := n1) (u := u1) (w := w1) (a := a1) (b := b1) (r := r1) (q := q1) (x := x1) (z := z1) hD1 hy
  iterate 5 refine s_step hk rfl rfl rfl ?_
  refine s_sc hk (7 * t + 1) rfl hs1 (nI_add (7 * t) 1) (by omega) hlen ?_
  refine s_callV hk [.ref 44, .int (sc (7 * t + 1))] [.int c] rfl rfl rfl rfl rfl rfl rfl (by omega) hm ?_
  rintro _ _ ⟨rfl, hJ⟩
  refine s_step hk rfl rfl rfl ?_
  exact s_eq (fun _ => hc _ hJ) (fun hq9 => absurd rfl hq9)
set_option maxRecDepth 20000 in
theorem lw_undo {t len : Nat} {l5 l6 : Option Value} {sc : Nat → Int32} (hd : 60 ≤ d) (hy : y 1000000000 = .inl (.int, len, .inl sc)) (hlen : len ≤ 4000) (ht : 7 * t + 7 ≤ len) (h : J t y S) (hc : ∀ S2, J (t + 1) y S2 → gX1 d 162 1119 [some (.ref 1000000000), some (.ref 0), some (.ref 44), some (.ref 83), some (.int (nI (7 * t))), l5, l6] [] S2 Q) : gX1 d 162 641 [some (.ref 1000000000), some (.ref 0), some (.ref 44), some (.ref 83), some (.int (nI (7 * t))), l5, l6] [] S Q := by
  have hk : gMT[162]? = some gro_162 := rfl
  have hs := J_scr h hy
  iterate 5 refine s_step hk rfl rfl rfl ?_
  refine s_sc hk (7 * t + 1) rfl hs (nI_add (7 * t) 1) (by omega) hlen ?_
  obtain ⟨n, u, w, a, b, r, q, D, x, z, N, M, T, o, p, st, rfl, h0⟩ := id h
  refine s_callV hk [.ref 0, .int (sc (7 * t + 1))] [] rfl rfl rfl rfl rfl rfl rfl (by omega) (j_undo (by omega) h _) ?_
  rintro _ _ ⟨c, rfl, ⟨n1, u1, w1, a1, b1, r1, q1, D1, x1, z1, rfl, hD1⟩, hm⟩
  have hs1 := J_scr1 (n := n1) (u := u1) (w := w1) (a := a1) (b := b1) (r := r1) (q := q1) (x := x1) (z := z1) hD1 hy
  iterate 5 refine s_step hk rfl rfl rfl ?_
  refine s_sc hk (7 * t + 1) rfl hs1 (nI_add (7 * t) 1) (by omega) hlen ?_
  refine s_callV hk [.ref 44, .int (sc (7 * t + 1))] [.int c] rfl rfl rfl rfl rfl rfl rfl (by omega) hm ?_
  rintro _ _ ⟨rfl, hJ⟩
  refine s_step hk rfl rfl rfl ?_
  exact s_eq (fun _ => hc _ hJ) (fun hq9 => absurd rfl hq9)
set_option maxRecDepth 20000 in
theorem lw_lose {t len : Nat} {l5 l6 : Option Value} {sc : Nat → Int32} (hd : 60 ≤ d) (hy : y 1000000000 = .inl (.int, len, .inl sc)) (hlen : len ≤ 4000) (ht : 7 * t + 7 ≤ len) (h : J t y S) (hc : ∀ S2, J (t + 1) y S2 → gX1 d 162 1119 [some (.ref 1000000000), some (.ref 0), some (.ref 44), some (.ref 83), some (.int (nI (7 * t))), l5, l6] [] S2 Q) : gX1 d 162 666 [some (.ref 1000000000), some (.ref 0), some (.ref 44), some (.ref 83), some (.int (nI (7 * t))), l5, l6] [] S Q := by
  have hk : gMT[162]? = some gro_162 := rfl
  have hs := J_scr h hy
  iterate 5 refine s_step hk rfl rfl rfl ?_
  refine s_sc hk (7 * t + 1) rfl hs (nI_add (7 * t) 1) (by omega) hlen ?_
  obtain ⟨n, u, w, a, b, r, q, D, x, z, N, M, T, o, p, st, rfl, h0⟩ := id h
  refine s_callV hk [.ref 0, .int (sc (7 * t + 1))] [] rfl rfl rfl rfl rfl rfl rfl (by omega) (j_lose (by omega) h _) ?_
  rintro _ _ ⟨c, rfl, ⟨n1, u1, w1, a1, b1, r1, q1, D1, x1, z1, rfl, hD1⟩, hm⟩
  have hs1 := J_scr1 (n := n1) (u := u1) (w := w1) (a := a1) (b := b1) (r := r1) (q := q1) (x := x1) (z := z1) hD1 hy
  iterate 5 refine s_step hk rfl rfl rfl ?_
  refine s_sc hk (7 * t + 1) rfl hs1 (nI_add (7 * t) 1) (by omega) hlen ?_
  refine s_callV hk [.ref 44, .int (sc (7 * t + 1))] [.int c] rfl rfl rfl rfl rfl rfl rfl (by omega) hm ?_
  rintro _ _ ⟨rfl, hJ⟩
  refine s_step hk rfl rfl rfl ?_
  exact s_eq (fun _ => hc _ hJ) (fun hq9 => absurd rfl hq9)
set_option maxRecDepth 20000 in
theorem lw_thefts {t len : Nat} {l5 l6 : Option Value} {sc : Nat → Int32} (hd : 60 ≤ d) (hy : y 1000000000 = .inl (.int, len, .inl sc)) (hlen : len ≤ 4000) (ht : 7 * t + 7 ≤ len) (h : J t y S) (hc : ∀ S2, J (t + 1) y S2 → gX1 d 162 1119 [some (.ref 1000000000), some (.ref 0), some (.ref 44), some (.ref 83), some (.int (nI (7 * t))), l5, l6] [] S2 Q) : gX1 d 162 691 [some (.ref 1000000000), some (.ref 0), some (.ref 44), some (.ref 83), some (.int (nI (7 * t))), l5, l6] [] S Q := by
  have hk : gMT[162]? = some gro_162 := rfl
  have hs := J_scr h hy
  iterate 5 refine s_step hk rfl rfl rfl ?_
  refine s_sc hk (7 * t + 1) rfl hs (nI_add (7 * t) 1) (by omega) hlen ?_
  iterate 4 refine s_step hk rfl rfl rfl ?_
  refine s_sc hk (7 * t + 2) rfl hs (nI_add (7 * t) 2) (by omega) hlen ?_
  obtain ⟨n, u, w, a, b, r, q, D, x, z, N, M, T, o, p, st, rfl, h0⟩ := id h
  refine s_callV hk [.ref 0, .int (sc (7 * t + 1)), .int (sc (7 * t + 2))] [] rfl rfl rfl rfl rfl rfl rfl (by omega) (j_thefts (by omega) h _ _) ?_
  rintro _ _ ⟨c, rfl, ⟨n1, u1, w1, a1, b1, r1, q1, D1, x1, z1, rfl, hD1⟩, hm⟩
  have hs1 := J_scr1 (n := n1) (u := u1) (w := w1) (a := a1) (b := b1) (r := r1) (q := q1) (x := x1) (z := z1) hD1 hy
  iterate 5 refine s_step hk rfl rfl rfl ?_
  refine s_sc hk (7 * t + 1) rfl hs1 (nI_add (7 * t) 1) (by omega) hlen ?_
  iterate 4 refine s_step hk rfl rfl rfl ?_
  refine s_sc hk (7 * t + 2) rfl hs1 (nI_add (7 * t) 2) (by omega) hlen ?_
  refine s_callV hk [.ref 44, .int (sc (7 * t + 1)), .int (sc (7 * t + 2))] [.int c] rfl rfl rfl rfl rfl rfl rfl (by omega) hm ?_
  rintro _ _ ⟨rfl, hJ⟩
  refine s_step hk rfl rfl rfl ?_
  exact s_eq (fun _ => hc _ hJ) (fun hq9 => absurd rfl hq9)
set_option maxRecDepth 20000 in
theorem lw_worth {t len : Nat} {l5 l6 : Option Value} {sc : Nat → Int32} (hd : 60 ≤ d) (hy : y 1000000000 = .inl (.int, len, .inl sc)) (hlen : len ≤ 4000) (ht : 7 * t + 7 ≤ len) (h : J t y S) (hc : ∀ S2, J (t + 1) y S2 → gX1 d 162 1119 [some (.ref 1000000000), some (.ref 0), some (.ref 44), some (.ref 83), some (.int (nI (7 * t))), l5, l6] [] S2 Q) : gX1 d 162 728 [some (.ref 1000000000), some (.ref 0), some (.ref 44), some (.ref 83), some (.int (nI (7 * t))), l5, l6] [] S Q := by
  have hk : gMT[162]? = some gro_162 := rfl
  have hs := J_scr h hy
  iterate 5 refine s_step hk rfl rfl rfl ?_
  refine s_sc hk (7 * t + 1) rfl hs (nI_add (7 * t) 1) (by omega) hlen ?_
  iterate 4 refine s_step hk rfl rfl rfl ?_
  refine s_sc hk (7 * t + 2) rfl hs (nI_add (7 * t) 2) (by omega) hlen ?_
  obtain ⟨n, u, w, a, b, r, q, D, x, z, N, M, T, o, p, st, rfl, h0⟩ := id h
  refine s_callV hk [.ref 0, .int (sc (7 * t + 1)), .int (sc (7 * t + 2))] [] rfl rfl rfl rfl rfl rfl rfl (by omega) (j_worth (by omega) h _ _) ?_
  rintro _ _ ⟨c, rfl, ⟨n1, u1, w1, a1, b1, r1, q1, D1, x1, z1, rfl, hD1⟩, hm⟩
  have hs1 := J_scr1 (n := n1) (u := u1) (w := w1) (a := a1) (b := b1) (r := r1) (q := q1) (x := x1) (z := z1) hD1 hy
  iterate 5 refine s_step hk rfl rfl rfl ?_
  refine s_sc hk (7 * t + 1) rfl hs1 (nI_add (7 * t) 1) (by omega) hlen ?_
  iterate 4 refine s_step hk rfl rfl rfl ?_
  refine s_sc hk (7 * t + 2) rfl hs1 (nI_add (7 * t) 2) (by omega) hlen ?_
  refine s_callV hk [.ref 44, .int (sc (7 * t + 1)), .int (sc (7 * t + 2))] [.int c] rfl rfl rfl rfl rfl rfl rfl (by omega) hm ?_
  rintro _ _ ⟨rfl, hJ⟩
  refine s_step hk rfl rfl rfl ?_
  exact s_eq (fun _ => hc _ hJ) (fun hq9 => absurd rfl hq9)
set_option maxRecDepth 20000 in
theorem lw_where {t len : Nat} {l5 l6 : Option Value} {sc : Nat → Int32} (hd : 60 ≤ d) (hy : y 1000000000 = .inl (.int, len, .inl sc)) (hlen : len ≤ 4000) (ht : 7 * t + 7 ≤ len) (h : J t y S) (hc : ∀ S2, J (t + 1) y S2 → gX1 d 162 1119 [some (.ref 1000000000), some (.ref 0), some (.ref 44), some (.ref 83), some (.int (nI (7 * t))), l5, l6] [] S2 Q) : gX1 d 162 765 [some (.ref 1000000000), some (.ref 0), some (.ref 44), some (.ref 83), some (.int (nI (7 * t))), l5, l6] [] S Q := by
  have hk : gMT[162]? = some gro_162 := rfl
  have hs := J_scr h hy
  iterate 5 refine s_step hk rfl rfl rfl ?_
  refine s_sc hk (7 * t + 1) rfl hs (nI_add (7 * t) 1) (by omega) hlen ?_
  obtain ⟨n, u, w, a, b, r, q, D, x, z, N, M, T, o, p, st, rfl, h0⟩ := id h
  refine s_callV hk [.ref 0, .int (sc (7 * t + 1))] [] rfl rfl rfl rfl rfl rfl rfl (by omega) (j_where (by omega) h _) ?_
  rintro _ _ ⟨c, rfl, ⟨n1, u1, w1, a1, b1, r1, q1, D1, x1, z1, rfl, hD1⟩, hm⟩
  have hs1 := J_scr1 (n := n1) (u := u1) (w := w1) (a := a1) (b := b1) (r := r1) (q := q1) (x := x1) (z := z1) hD1 hy
  iterate 5 refine s_step hk rfl rfl rfl ?_
  refine s_sc hk (7 * t + 1) rfl hs1 (nI_add (7 * t) 1) (by omega) hlen ?_
  refine s_callV hk [.ref 44, .int (sc (7 * t + 1))] [.int c] rfl rfl rfl rfl rfl rfl rfl (by omega) hm ?_
  rintro _ _ ⟨rfl, hJ⟩
  refine s_step hk rfl rfl rfl ?_
  exact s_eq (fun _ => hc _ hJ) (fun hq9 => absurd rfl hq9)
set_option maxRecDepth 20000 in
theorem lw_move {t len : Nat} {l5 l6 : Option Value} {sc : Nat → Int32} (hd : 60 ≤ d) (hy : y 1000000000 = .inl (.int, len, .inl sc)) (hlen : len ≤ 4000) (ht : 7 * t + 7 ≤ len) (h : J t y S) (hc : ∀ S2, J (t + 1) y S2 → gX1 d 162 1119 [some (.ref 1000000000), some (.ref 0), some (.ref 44), some (.ref 83), some (.int (nI (7 * t))), l5, l6] [] S2 Q) : gX1 d 162 790 [some (.ref 1000000000), some (.ref 0), some (.ref 44), some (.ref 83), some (.int (nI (7 * t))), l5, l6] [] S Q := by
  have hk : gMT[162]? = some gro_162 := rfl
  have hs := J_scr h hy
  iterate 5 refine s_step hk rfl rfl rfl ?_
  refine s_sc hk (7 * t + 1) rfl hs (nI_add (7 * t) 1) (by omega) hlen ?_
  obtain ⟨n, u, w, a, b, r, q, D, x, z, N, M, T, o, p, st, rfl, h0⟩ := id h
  refine s_callV hk [.ref 0, .int (sc (7 * t + 1))] [] rfl rfl rfl rfl rfl rfl rfl (by omega) (j_move (by omega) h _) ?_
  rintro _ _ ⟨c, rfl, ⟨n1, u1, w1, a1, b1, r1, q1, D1, x1, z1, rfl, hD1⟩, hm⟩
  have hs1 := J_scr1 (n := n1) (u := u1) (w := w1) (a := a1) (b := b1) (r := r1) (q := q1) (x := x1) (z := z1) hD1 hy
  iterate 5 refine s_step hk rfl rfl rfl ?_
  refine s_sc hk (7 * t + 1) rfl hs1 (nI_add (7 * t) 1) (by omega) hlen ?_
  refine s_callV hk [.ref 44, .int (sc (7 * t + 1))] [.int c] rfl rfl rfl rfl rfl rfl rfl (by omega) hm ?_
  rintro _ _ ⟨rfl, hJ⟩
  refine s_step hk rfl rfl rfl ?_
  exact s_eq (fun _ => hc _ hJ) (fun hq9 => absurd rfl hq9)
set_option maxRecDepth 20000 in
theorem lw_van {t len : Nat} {l5 l6 : Option Value} {sc : Nat → Int32} (hd : 60 ≤ d) (hy : y 1000000000 = .inl (.int, len, .inl sc)) (hlen : len ≤ 4000) (ht : 7 * t + 7 ≤ len) (h : J t y S) (hc : ∀ S2, J (t + 1) y S2 → gX1 d 162 1119 [some (.ref 1000000000), some (.ref 0), some (.ref 44), some (.ref 83), some (.int (nI (7 * t))), l5, l6] [] S2 Q) : gX1 d 162 815 [some (.ref 1000000000), some (.ref 0), some (.ref 44), some (.ref 83), some (.int (nI (7 * t))), l5, l6] [] S Q := by
  have hk : gMT[162]? = some gro_162 := rfl
  have hs := J_scr h hy
  iterate 5 refine s_step hk rfl rfl rfl ?_
  refine s_sc hk (7 * t + 1) rfl hs (nI_add (7 * t) 1) (by omega) hlen ?_
  obtain ⟨n, u, w, a, b, r, q, D, x, z, N, M, T, o, p, st, rfl, h0⟩ := id h
  refine s_callV hk [.ref 0, .int (sc (7 * t + 1))] [] rfl rfl rfl rfl rfl rfl rfl (by omega) (j_van (by omega) h _) ?_
  rintro _ _ ⟨c, rfl, ⟨n1, u1, w1, a1, b1, r1, q1, D1, x1, z1, rfl, hD1⟩, hm⟩
  have hs1 := J_scr1 (n := n1) (u := u1) (w := w1) (a := a1) (b := b1) (r := r1) (q := q1) (x := x1) (z := z1) hD1 hy
  iterate 5 refine s_step hk rfl rfl rfl ?_
  refine s_sc hk (7 * t + 1) rfl hs1 (nI_add (7 * t) 1) (by omega) hlen ?_
  refine s_callV hk [.ref 44, .int (sc (7 * t + 1))] [.int c] rfl rfl rfl rfl rfl rfl rfl (by omega) hm ?_
  rintro _ _ ⟨rfl, hJ⟩
  refine s_step hk rfl rfl rfl ?_
  exact s_eq (fun _ => hc _ hJ) (fun hq9 => absurd rfl hq9)
set_option maxRecDepth 20000 in
theorem lw_way {t len : Nat} {l5 l6 : Option Value} {sc : Nat → Int32} (hd : 60 ≤ d) (hy : y 1000000000 = .inl (.int, len, .inl sc)) (hlen : len ≤ 4000) (ht : 7 * t + 7 ≤ len) (h : J t y S) (hc : ∀ S2, J (t + 1) y S2 → gX1 d 162 1119 [some (.ref 1000000000), some (.ref 0), some (.ref 44), some (.ref 83), some (.int (nI (7 * t))), l5, l6] [] S2 Q) : gX1 d 162 840 [some (.ref 1000000000), some (.ref 0), some (.ref 44), some (.ref 83), some (.int (nI (7 * t))), l5, l6] [] S Q := by
  have hk : gMT[162]? = some gro_162 := rfl
  have hs := J_scr h hy
  iterate 5 refine s_step hk rfl rfl rfl ?_
  refine s_sc hk (7 * t + 1) rfl hs (nI_add (7 * t) 1) (by omega) hlen ?_
  iterate 4 refine s_step hk rfl rfl rfl ?_
  refine s_sc hk (7 * t + 2) rfl hs (nI_add (7 * t) 2) (by omega) hlen ?_
  iterate 4 refine s_step hk rfl rfl rfl ?_
  refine s_sc hk (7 * t + 3) rfl hs (nI_add (7 * t) 3) (by omega) hlen ?_
  obtain ⟨n, u, w, a, b, r, q, D, x, z, N, M, T, o, p, st, rfl, h0⟩ := id h
  refine s_callV hk [.ref 0, .int (sc (7 * t + 1)), .int (sc (7 * t + 2)), .int (sc (7 * t + 3))] [] rfl rfl rfl rfl rfl rfl rfl (by omega) (j_way (by omega) h _ _ _) ?_
  rintro _ _ ⟨c, rfl, ⟨n1, u1, w1, a1, b1, r1, q1, D1, x1, z1, rfl, hD1⟩, hm⟩
  have hs1 := J_scr1 (n := n1) (u := u1) (w := w1) (a := a1) (b := b1) (r := r1) (q := q1) (x := x1) (z := z1) hD1 hy
  iterate 5 refine s_step hk rfl rfl rfl ?_
  refine s_sc hk (7 * t + 1) rfl hs1 (nI_add (7 * t) 1) (by omega) hlen ?_
  iterate 4 refine s_step hk rfl rfl rfl ?_
  refine s_sc hk (7 * t + 2) rfl hs1 (nI_add (7 * t) 2) (by omega) hlen ?_
  iterate 4 refine s_step hk rfl rfl rfl ?_
  refine s_sc hk (7 * t + 3) rfl hs1 (nI_add (7 * t) 3) (by omega) hlen ?_
  refine s_callV hk [.ref 44, .int (sc (7 * t + 1)), .int (sc (7 * t + 2)), .int (sc (7 * t + 3))] [.int c] rfl rfl rfl rfl rfl rfl rfl (by omega) hm ?_
  rintro _ _ ⟨rfl, hJ⟩
  refine s_step hk rfl rfl rfl ?_
  exact s_eq (fun _ => hc _ hJ) (fun hq9 => absurd rfl hq9)
set_option maxRecDepth 20000 in
theorem lw_round {t len : Nat} {l5 l6 : Option Value} {sc : Nat → Int32} (hd : 60 ≤ d) (hy : y 1000000000 = .inl (.int, len, .inl sc)) (hlen : len ≤ 4000) (ht : 7 * t + 7 ≤ len) (h : J t y S) (hc : ∀ S2, J (t + 1) y S2 → gX1 d 162 1119 [some (.ref 1000000000), some (.ref 0), some (.ref 44), some (.ref 83), some (.int (nI (7 * t))), l5, l6] [] S2 Q) : gX1 d 162 889 [some (.ref 1000000000), some (.ref 0), some (.ref 44), some (.ref 83), some (.int (nI (7 * t))), l5, l6] [] S Q := by
  have hk : gMT[162]? = some gro_162 := rfl
  have hs := J_scr h hy
  iterate 5 refine s_step hk rfl rfl rfl ?_
  refine s_sc hk (7 * t + 1) rfl hs (nI_add (7 * t) 1) (by omega) hlen ?_
  obtain ⟨n, u, w, a, b, r, q, D, x, z, N, M, T, o, p, st, rfl, h0⟩ := id h
  refine s_callV hk [.ref 0, .int (sc (7 * t + 1))] [] rfl rfl rfl rfl rfl rfl rfl (by omega) (j_round (by omega) h _) ?_
  rintro _ _ ⟨c, rfl, ⟨n1, u1, w1, a1, b1, r1, q1, D1, x1, z1, rfl, hD1⟩, hm⟩
  have hs1 := J_scr1 (n := n1) (u := u1) (w := w1) (a := a1) (b := b1) (r := r1) (q := q1) (x := x1) (z := z1) hD1 hy
  iterate 5 refine s_step hk rfl rfl rfl ?_
  refine s_sc hk (7 * t + 1) rfl hs1 (nI_add (7 * t) 1) (by omega) hlen ?_
  refine s_callV hk [.ref 44, .int (sc (7 * t + 1))] [.int c] rfl rfl rfl rfl rfl rfl rfl (by omega) hm ?_
  rintro _ _ ⟨rfl, hJ⟩
  refine s_step hk rfl rfl rfl ?_
  exact s_eq (fun _ => hc _ hJ) (fun hq9 => absurd rfl hq9)
set_option maxRecDepth 20000 in
theorem lw_helper {t len : Nat} {l5 l6 : Option Value} {sc : Nat → Int32} (hd : 60 ≤ d) (hy : y 1000000000 = .inl (.int, len, .inl sc)) (hlen : len ≤ 4000) (ht : 7 * t + 7 ≤ len) (h : J t y S) (hc : ∀ S2, J (t + 1) y S2 → gX1 d 162 1119 [some (.ref 1000000000), some (.ref 0), some (.ref 44), some (.ref 83), some (.int (nI (7 * t))), l5, l6] [] S2 Q) : gX1 d 162 914 [some (.ref 1000000000), some (.ref 0), some (.ref 44), some (.ref 83), some (.int (nI (7 * t))), l5, l6] [] S Q := by
  have hk : gMT[162]? = some gro_162 := rfl
  have hs := J_scr h hy
  iterate 5 refine s_step hk rfl rfl rfl ?_
  refine s_sc hk (7 * t + 1) rfl hs (nI_add (7 * t) 1) (by omega) hlen ?_
  obtain ⟨n, u, w, a, b, r, q, D, x, z, N, M, T, o, p, st, rfl, h0⟩ := id h
  refine s_callV hk [.ref 0, .int (sc (7 * t + 1))] [] rfl rfl rfl rfl rfl rfl rfl (by omega) (j_helper (by omega) h _) ?_
  rintro _ _ ⟨c, rfl, ⟨n1, u1, w1, a1, b1, r1, q1, D1, x1, z1, rfl, hD1⟩, hm⟩
  have hs1 := J_scr1 (n := n1) (u := u1) (w := w1) (a := a1) (b := b1) (r := r1) (q := q1) (x := x1) (z := z1) hD1 hy
  iterate 5 refine s_step hk rfl rfl rfl ?_
  refine s_sc hk (7 * t + 1) rfl hs1 (nI_add (7 * t) 1) (by omega) hlen ?_
  refine s_callV hk [.ref 44, .int (sc (7 * t + 1))] [.int c] rfl rfl rfl rfl rfl rfl rfl (by omega) hm ?_
  rintro _ _ ⟨rfl, hJ⟩
  refine s_step hk rfl rfl rfl ?_
  exact s_eq (fun _ => hc _ hJ) (fun hq9 => absurd rfl hq9)
set_option maxRecDepth 20000 in
theorem lw_least {t len : Nat} {l5 l6 : Option Value} {sc : Nat → Int32} (hd : 60 ≤ d) (hy : y 1000000000 = .inl (.int, len, .inl sc)) (hlen : len ≤ 4000) (ht : 7 * t + 7 ≤ len) (h : J t y S) (hc : ∀ S2, J (t + 1) y S2 → gX1 d 162 1119 [some (.ref 1000000000), some (.ref 0), some (.ref 44), some (.ref 83), some (.int (nI (7 * t))), l5, l6] [] S2 Q) : gX1 d 162 939 [some (.ref 1000000000), some (.ref 0), some (.ref 44), some (.ref 83), some (.int (nI (7 * t))), l5, l6] [] S Q := by
  have hk : gMT[162]? = some gro_162 := rfl
  have hs := J_scr h hy
  iterate 5 refine s_step hk rfl rfl rfl ?_
  refine s_sc hk (7 * t + 1) rfl hs (nI_add (7 * t) 1) (by omega) hlen ?_
  obtain ⟨n, u, w, a, b, r, q, D, x, z, N, M, T, o, p, st, rfl, h0⟩ := id h
  refine s_callV hk [.ref 0, .int (sc (7 * t + 1))] [] rfl rfl rfl rfl rfl rfl rfl (by omega) (j_least (by omega) h _) ?_
  rintro _ _ ⟨c, rfl, ⟨n1, u1, w1, a1, b1, r1, q1, D1, x1, z1, rfl, hD1⟩, hm⟩
  have hs1 := J_scr1 (n := n1) (u := u1) (w := w1) (a := a1) (b := b1) (r := r1) (q := q1) (x := x1) (z := z1) hD1 hy
  iterate 5 refine s_step hk rfl rfl rfl ?_
  refine s_sc hk (7 * t + 1) rfl hs1 (nI_add (7 * t) 1) (by omega) hlen ?_
  refine s_callV hk [.ref 44, .int (sc (7 * t + 1))] [.int c] rfl rfl rfl rfl rfl rfl rfl (by omega) hm ?_
  rintro _ _ ⟨rfl, hJ⟩
  refine s_step hk rfl rfl rfl ?_
  exact s_eq (fun _ => hc _ hJ) (fun hq9 => absurd rfl hq9)
set_option maxRecDepth 20000 in
theorem lw_rate {t len : Nat} {l5 l6 : Option Value} {sc : Nat → Int32} (hd : 60 ≤ d) (hy : y 1000000000 = .inl (.int, len, .inl sc)) (hlen : len ≤ 4000) (ht : 7 * t + 7 ≤ len) (h : J t y S) (hc : ∀ S2, J (t + 1) y S2 → gX1 d 162 1119 [some (.ref 1000000000), some (.ref 0), some (.ref 44), some (.ref 83), some (.int (nI (7 * t))), l5, l6] [] S2 Q) : gX1 d 162 964 [some (.ref 1000000000), some (.ref 0), some (.ref 44), some (.ref 83), some (.int (nI (7 * t))), l5, l6] [] S Q := by
  have hk : gMT[162]? = some gro_162 := rfl
  have hs := J_scr h hy
  iterate 5 refine s_step hk rfl rfl rfl ?_
  refine s_sc hk (7 * t + 1) rfl hs (nI_add (7 * t) 1) (by omega) hlen ?_
  obtain ⟨n, u, w, a, b, r, q, D, x, z, N, M, T, o, p, st, rfl, h0⟩ := id h
  refine s_callV hk [.ref 0, .int (sc (7 * t + 1))] [] rfl rfl rfl rfl rfl rfl rfl (by omega) (j_rate (by omega) h _) ?_
  rintro _ _ ⟨c, rfl, ⟨n1, u1, w1, a1, b1, r1, q1, D1, x1, z1, rfl, hD1⟩, hm⟩
  have hs1 := J_scr1 (n := n1) (u := u1) (w := w1) (a := a1) (b := b1) (r := r1) (q := q1) (x := x1) (z := z1) hD1 hy
  iterate 5 refine s_step hk rfl rfl rfl ?_
  refine s_sc hk (7 * t + 1) rfl hs1 (nI_add (7 * t) 1) (by omega) hlen ?_
  refine s_callV hk [.ref 44, .int (sc (7 * t + 1))] [.int c] rfl rfl rfl rfl rfl rfl rfl (by omega) hm ?_
  rintro _ _ ⟨rfl, hJ⟩
  refine s_step hk rfl rfl rfl ?_
  exact s_eq (fun _ => hc _ hJ) (fun hq9 => absurd rfl hq9)
set_option maxRecDepth 20000 in
theorem lw_relief {t len : Nat} {l5 l6 : Option Value} {sc : Nat → Int32} (hd : 60 ≤ d) (hy : y 1000000000 = .inl (.int, len, .inl sc)) (hlen : len ≤ 4000) (ht : 7 * t + 7 ≤ len) (h : J t y S) (hc : ∀ S2, J (t + 1) y S2 → gX1 d 162 1119 [some (.ref 1000000000), some (.ref 0), some (.ref 44), some (.ref 83), some (.int (nI (7 * t))), l5, l6] [] S2 Q) : gX1 d 162 989 [some (.ref 1000000000), some (.ref 0), some (.ref 44), some (.ref 83), some (.int (nI (7 * t))), l5, l6] [] S Q := by
  have hk : gMT[162]? = some gro_162 := rfl
  have hs := J_scr h hy
  iterate 5 refine s_step hk rfl rfl rfl ?_
  refine s_sc hk (7 * t + 1) rfl hs (nI_add (7 * t) 1) (by omega) hlen ?_
  iterate 4 refine s_step hk rfl rfl rfl ?_
  refine s_sc hk (7 * t + 2) rfl hs (nI_add (7 * t) 2) (by omega) hlen ?_
  obtain ⟨n, u, w, a, b, r, q, D, x, z, N, M, T, o, p, st, rfl, h0⟩ := id h
  refine s_callV hk [.ref 0, .int (sc (7 * t + 1)), .int (sc (7 * t + 2))] [] rfl rfl rfl rfl rfl rfl rfl (by omega) (j_relief (by omega) h _ _) ?_
  rintro _ _ ⟨c, rfl, ⟨n1, u1, w1, a1, b1, r1, q1, D1, x1, z1, rfl, hD1⟩, hm⟩
  have hs1 := J_scr1 (n := n1) (u := u1) (w := w1) (a := a1) (b := b1) (r := r1) (q := q1) (x := x1) (z := z1) hD1 hy
  iterate 5 refine s_step hk rfl rfl rfl ?_
  refine s_sc hk (7 * t + 1) rfl hs1 (nI_add (7 * t) 1) (by omega) hlen ?_
  iterate 4 refine s_step hk rfl rfl rfl ?_
  refine s_sc hk (7 * t + 2) rfl hs1 (nI_add (7 * t) 2) (by omega) hlen ?_
  refine s_callV hk [.ref 44, .int (sc (7 * t + 1)), .int (sc (7 * t + 2))] [.int c] rfl rfl rfl rfl rfl rfl rfl (by omega) hm ?_
  rintro _ _ ⟨rfl, hJ⟩
  refine s_step hk rfl rfl rfl ?_
  exact s_eq (fun _ => hc _ hJ) (fun hq9 => absurd rfl hq9)
set_option maxRecDepth 20000 in
theorem lw_count {t len : Nat} {l5 l6 : Option Value} {sc : Nat → Int32} (hd : 60 ≤ d) (hy : y 1000000000 = .inl (.int, len, .inl sc)) (hlen : len ≤ 4000) (ht : 7 * t + 7 ≤ len) (h : J t y S) (hc : ∀ S2, J (t + 1) y S2 → gX1 d 162 1119 [some (.ref 1000000000), some (.ref 0), some (.ref 44), some (.ref 83), some (.int (nI (7 * t))), l5, l6] [] S2 Q) : gX1 d 162 1094 [some (.ref 1000000000), some (.ref 0), some (.ref 44), some (.ref 83), some (.int (nI (7 * t))), l5, l6] [] S Q := by
  have hk : gMT[162]? = some gro_162 := rfl
  have hs := J_scr h hy
  iterate 5 refine s_step hk rfl rfl rfl ?_
  refine s_sc hk (7 * t + 1) rfl hs (nI_add (7 * t) 1) (by omega) hlen ?_
  obtain ⟨n, u, w, a, b, r, q, D, x, z, N, M, T, o, p, st, rfl, h0⟩ := id h
  refine s_callV hk [.ref 0, .int (sc (7 * t + 1))] [] rfl rfl rfl rfl rfl rfl rfl (by omega) (j_count (by omega) h _) ?_
  rintro _ _ ⟨c, rfl, ⟨n1, u1, w1, a1, b1, r1, q1, D1, x1, z1, rfl, hD1⟩, hm⟩
  have hs1 := J_scr1 (n := n1) (u := u1) (w := w1) (a := a1) (b := b1) (r := r1) (q := q1) (x := x1) (z := z1) hD1 hy
  iterate 5 refine s_step hk rfl rfl rfl ?_
  refine s_sc hk (7 * t + 1) rfl hs1 (nI_add (7 * t) 1) (by omega) hlen ?_
  refine s_callV hk [.ref 44, .int (sc (7 * t + 1))] [.int c] rfl rfl rfl rfl rfl rfl rfl (by omega) hm ?_
  rintro _ _ ⟨rfl, hJ⟩
  refine s_step hk rfl rfl rfl ?_
  exact s_eq (fun _ => hc _ hJ) (fun hq9 => absurd rfl hq9)
set_option maxRecDepth 20000 in
theorem lw_look {t len : Nat} {l5 l6 : Option Value} {sc : Nat → Int32} (hd : 60 ≤ d) (hK : t ≤ 600) (hy : y 1000000000 = .inl (.int, len, .inl sc)) (hlen : len ≤ 4000) (ht : 7 * t + 7 ≤ len) (h : J t y S) (hc : ∀ l5 l6 S2, J (t + 1) y S2 → gX1 d 162 1119 [some (.ref 1000000000), some (.ref 0), some (.ref 44), some (.ref 83), some (.int (nI (7 * t))), l5, l6] [] S2 Q) : gX1 d 162 1026 [some (.ref 1000000000), some (.ref 0), some (.ref 44), some (.ref 83), some (.int (nI (7 * t))), l5, l6] [] S Q := by
  have hk : gMT[162]? = some gro_162 := rfl
  have hs := J_scr h hy
  have hl := j_look (d := 8) (by omega) hK h (sc (7 * t + 1)) (sc (7 * t + 2))
  obtain ⟨n, u, w, a, b, r, q, y', N, rfl, hy', hn, hN, hN1, hcase⟩ := hl
  have hyy : y' 1000000000 = .inl (.int, len, .inl sc) := hy'.trans hy
  have hsc : ∀ (n u : Nat) (w a : Nat → Nat → Int32) (b : Nat → Nat → Int64) (r : Nat → Nat → Nat) (q : Nat → Nat → Option Nat), ((n, u, HP w a b r q y') : gS).2.2 1000000000 = .inl (.int, len, .inl sc) := fun n u w a b r q => by
    show HP w a b r q y' 1000000000 = _
    rw [HP_dyn (by omega)]; exact hyy
  iterate 5 refine s_step hk rfl rfl rfl ?_
  refine s_sc hk (7 * t + 1) rfl hs (nI_add (7 * t) 1) (by omega) hlen ?_
  iterate 4 refine s_step hk rfl rfl rfl ?_
  refine s_sc hk (7 * t + 2) rfl hs (nI_add (7 * t) 2) (by omega) hlen ?_
  refine s_step hk rfl rfl rfl ?_
  rcases hcase with ⟨hg1, hg2, row, hrow, hlen2, f, v, S1, hrun, c, a1, rfl, rfl, hm⟩ | ⟨hno, hm⟩
  · have er : row = gro_91 := Option.some.inj (hrow.symm.trans rfl)
    subst er
    have hrun2 : gER gMT gBI0 f 8 91 0 (gpad (gent [.ref 0, .int (sc (7 * t + 1)), .int (sc (7 * t + 2))]) 4) [] (n, u, HP w a b r q y') (some (.int c)) (n, u, HP w a1 b r q y') := hrun
    have hB : gBI1 1003 [.ref 0, .int (sc (7 * t + 1)), .int (sc (7 * t + 2)), .ref 83] (n, u, HP w a b r q y') (some (.int 0)) (n, u, HP w a1 (upd2 b 83 0 c.toInt64) r q y') := by
      refine Or.inr ⟨rfl, _, _, rfl, Or.inl ⟨f, c, (n, u, HP w a1 b r q y'), b 83, hrun2, rfl, rfl, rfl, ?_⟩⟩
      refine Prod.ext rfl (Prod.ext rfl ?_)
      show HP w a1 (upd2 b 83 0 c.toInt64) r q y' = gset (HP w a1 b r q y') 83 (.inl (.long, 1, .inr (.inl (vp_updL (b 83) 0 c.toInt64))))
      rw [updL_row]
      exact (HP_b rfl).symm
    refine s_bi hk [.ref 0, .int (sc (7 * t + 1)), .int (sc (7 * t + 2)), .ref 83] [] rfl rfl rfl rfl rfl rfl (by omega) hB ?_
    iterate 5 refine s_step hk rfl rfl rfl ?_
    refine s_step hk rfl rfl rfl ?_
    refine s_sc hk (7 * t + 1) rfl (hsc _ _ _ _ _ _ _) (nI_add (7 * t) 1) (by omega) hlen ?_
    iterate 4 refine s_step hk rfl rfl rfl ?_
    refine s_sc hk (7 * t + 2) rfl (hsc _ _ _ _ _ _ _) (nI_add (7 * t) 2) (by omega) hlen ?_
    refine s_callV hk [.ref 44, .int (sc (7 * t + 1)), .int (sc (7 * t + 2))] [] rfl rfl rfl rfl rfl rfl rfl (by omega) (gE_mono (by omega) (hm c.toInt64) (fun _ _ h => h)) ?_
    rintro _ _ ⟨rfl, hJ, w2, a2, h0, rfl⟩
    iterate 2 refine s_step hk rfl rfl rfl ?_
    refine s_callV hk [.ref 44] [] rfl rfl rfl rfl rfl rfl rfl (by omega) m_thrown ?_
    rintro _ _ ⟨rfl, rfl⟩
    rw [h0]
    iterate 2 refine s_step hk rfl rfl rfl ?_
    refine s_eq (fun _ => ?_) (fun hq9 => absurd rfl hq9)
    iterate 2 refine s_step hk rfl rfl rfl ?_
    refine s_ne (fun hq9 => absurd rfl hq9) (fun _ => ?_)
    iterate 2 refine s_step hk rfl rfl rfl ?_
    have hla : gstep .laload 1 [] .null 1081 [some (.ref 1000000000), some (.ref 0), some (.ref 44), some (.ref 83), some (.int (nI (7 * t))), some (.int 0), some (.int c)] [.int 0, .ref 83] (n, u, HP w2 a2 (upd2 b 83 0 c.toInt64) r q y') = some (1082, [some (.ref 1000000000), some (.ref 0), some (.ref 44), some (.ref 83), some (.int (nI (7 * t))), some (.int 0), some (.int c)], [.long (upd2 b 83 0 c.toInt64 83 0)], (n, u, HP w2 a2 (upd2 b 83 0 c.toInt64) r q y')) := rfl
    refine s_step hk rfl rfl hla ?_
    rw [upd2_same]
    iterate 3 refine s_step hk rfl rfl rfl ?_
    have hcmp : lg_cmp c.toInt64 c.toInt64 = 0 := j_cmp c.toInt64
    rw [hcmp]
    refine s_step hk rfl rfl rfl ?_
    refine s_eq (fun _ => ?_) (fun hq9 => absurd rfl hq9)
    refine s_step hk rfl rfl rfl ?_
    exact hc _ _ _ hJ
  · have hB : gBI1 1003 [.ref 0, .int (sc (7 * t + 1)), .int (sc (7 * t + 2)), .ref 83] (n, u, HP w a b r q y') (some (.int 1)) (n + 1, u + 6, HP w a b r q y') := by
      refine Or.inr ⟨rfl, _, _, rfl, Or.inr ⟨N, _, rfl, ?_, hN1, hn, hno, rfl, rfl⟩⟩
      show some (Value.int (w 0 1)) = _
      rw [hN]
    refine s_bi hk [.ref 0, .int (sc (7 * t + 1)), .int (sc (7 * t + 2)), .ref 83] [] rfl rfl rfl rfl rfl rfl (by omega) hB ?_
    iterate 5 refine s_step hk rfl rfl rfl ?_
    refine s_step hk rfl rfl rfl ?_
    refine s_sc hk (7 * t + 1) rfl (hsc _ _ _ _ _ _ _) (nI_add (7 * t) 1) (by omega) hlen ?_
    iterate 4 refine s_step hk rfl rfl rfl ?_
    refine s_sc hk (7 * t + 2) rfl (hsc _ _ _ _ _ _ _) (nI_add (7 * t) 2) (by omega) hlen ?_
    refine s_callV hk [.ref 44, .int (sc (7 * t + 1)), .int (sc (7 * t + 2))] [] rfl rfl rfl rfl rfl rfl rfl (by omega) (gE_mono (by omega) (hm (n + 1) (u + 6) (by omega) (by omega) (by omega)) (fun _ _ h => h)) ?_
    rintro _ _ ⟨⟨c, rfl⟩, hJ, w2, a2, h0, rfl⟩
    iterate 2 refine s_step hk rfl rfl rfl ?_
    refine s_callV hk [.ref 44] [] rfl rfl rfl rfl rfl rfl rfl (by omega) m_thrown ?_
    rintro _ _ ⟨rfl, rfl⟩
    rw [h0]
    iterate 2 refine s_step hk rfl rfl rfl ?_
    refine s_eq (fun _ => ?_) (fun hq9 => absurd rfl hq9)
    iterate 2 refine s_step hk rfl rfl rfl ?_
    refine s_ne (fun _ => ?_) (fun hq9 => absurd hq9 (by decide))
    refine s_step hk rfl rfl rfl ?_
    exact hc _ _ _ hJ
set_option maxRecDepth 20000 in
theorem lw_loop {len : Nat} {sc : Nat → Int32} (hd : 60 ≤ d) (hy : y 1000000000 = .inl (.int, len, .inl sc)) (hlen : len ≤ 4000) : ∀ (m t : Nat) (l5 l6 : Option Value) (S : gS), len ≤ 7 * t + m → 7 * t ≤ len → J t y S → gX1 d 162 23 [some (.ref 1000000000), some (.ref 0), some (.ref 44), some (.ref 83), some (.int (nI (7 * t))), l5, l6] [] S (fun v S' => v = some (.int 1) ∧ ∃ K, K ≤ 600 ∧ J K y S') := by
  have hk : gMT[162]? = some gro_162 := rfl
  intro m
  induction m with
  | zero =>
    intro t l5 l6 S h1 h2 h
    have hs := J_scr h hy
    iterate 2 refine s_step hk rfl rfl rfl ?_
    refine s_alen hk rfl hs ?_
    iterate 3 refine s_step hk rfl rfl rfl ?_
    refine s_gt (fun _ => ?_) (fun hq9 => absurd (j_gt (by omega) (by omega)) hq9)
    refine s_step hk rfl rfl rfl ?_
    exact s_iret hk rfl (Or.inr rfl) ⟨rfl, t, by omega, h⟩
  | succ m ih =>
    intro t l5 l6 S h1 h2 h
    have hs := J_scr h hy
    iterate 2 refine s_step hk rfl rfl rfl ?_
    refine s_alen hk rfl hs ?_
    iterate 3 refine s_step hk rfl rfl rfl ?_
    by_cases hgo : 7 * t + 7 ≤ len
    · refine s_gt (fun hq9 => absurd hq9 (j_ngt hgo (by omega))) (fun _ => ?_)
      have hc : ∀ (l5 l6 : Option Value) S2, J (t + 1) y S2 → gX1 d 162 1119 [some (.ref 1000000000), some (.ref 0), some (.ref 44), some (.ref 83), some (.int (nI (7 * t))), l5, l6] [] S2 (fun v S' => v = some (.int 1) ∧ ∃ K, K ≤ 600 ∧ J K y S') := by
        intro l5 l6 S2 h2
        iterate 2 refine s_step hk rfl rfl rfl ?_
        have e7 : nI (7 * t) + 7 = nI (7 * (t + 1)) := by rw [show 7 * (t + 1) = 7 * t + 7 by omega]; exact nI_add (7 * t) 7
        show gX1 d 162 23 [some (.ref 1000000000), some (.ref 0), some (.ref 44), some (.ref 83), some (.int (nI (7 * t) + 7)), l5, l6] [] S2 _
        rw [e7]
        exact ih (t + 1) l5 l6 S2 (by omega) (by omega) h2
      iterate 2 refine s_step hk rfl rfl rfl ?_
      refine s_sc hk (7 * t) rfl hs rfl (by omega) hlen ?_
      iterate 2 refine s_step hk rfl rfl rfl ?_
      obtain ⟨j, hj, ej⟩ := pk_andE (sc (7 * t)) (m := 31) 5 (by decide)
      rw [ej]
      by_cases h26 : 26 ≤ j
      · refine s_swD hk rfl (Or.inr (by rw [nI_toInt (by omega)]; omega)) ?_
        exact hc l5 l6 S (J_up h)
      · match j, h26 with
        | 0, _ => exact s_swI hk 0 rfl rfl (by decide) (lw_give (by omega) (by omega) hy hlen hgo h (hc l5 l6))
        | 1, _ => exact s_swI hk 1 rfl rfl (by decide) (lw_shelf (by omega) hy hlen hgo h (hc l5 l6))
        | 2, _ => exact s_swI hk 2 rfl rfl (by decide) (lw_base (by omega) hy hlen hgo h (hc l5 l6))
        | 3, _ => exact s_swI hk 3 rfl rfl (by decide) (lw_feed (by omega) hy hlen hgo h (hc l5 l6))
        | 4, _ => exact s_swI hk 4 rfl rfl (by decide) (lw_text (by omega) hy hlen hgo h (hc l5 l6))
        | 5, _ => exact s_swI hk 5 rfl rfl (by decide) (lw_sort (by omega) hy hlen hgo h (hc l5 l6))
        | 6, _ => exact s_swI hk 6 rfl rfl (by decide) (lw_says (by omega) hy hlen hgo h (hc l5 l6))
        | 7, _ => exact s_swI hk 7 rfl rfl (by decide) (lw_habit (by omega) (by omega) hy hlen hgo h (hc l5 l6))
        | 8, _ => exact s_swI hk 8 rfl rfl (by decide) (lw_weeks (by omega) hy hlen hgo h (hc l5 l6))
        | 9, _ => exact s_swI hk 9 rfl rfl (by decide) (lw_price (by omega) hy hlen hgo h (hc l5 l6))
        | 10, _ => exact s_swI hk 10 rfl rfl (by decide) (lw_sell (by omega) (by omega) hy hlen hgo h (hc l5 l6))
        | 11, _ => exact s_swI hk 11 rfl rfl (by decide) (lw_undo (by omega) hy hlen hgo h (hc l5 l6))
        | 12, _ => exact s_swI hk 12 rfl rfl (by decide) (lw_lose (by omega) hy hlen hgo h (hc l5 l6))
        | 13, _ => exact s_swI hk 13 rfl rfl (by decide) (lw_thefts (by omega) hy hlen hgo h (hc l5 l6))
        | 14, _ => exact s_swI hk 14 rfl rfl (by decide) (lw_worth (by omega) hy hlen hgo h (hc l5 l6))
        | 15, _ => exact s_swI hk 15 rfl rfl (by decide) (lw_where (by omega) hy hlen hgo h (hc l5 l6))
        | 16, _ => exact s_swI hk 16 rfl rfl (by decide) (lw_move (by omega) hy hlen hgo h (hc l5 l6))
        | 17, _ => exact s_swI hk 17 rfl rfl (by decide) (lw_van (by omega) hy hlen hgo h (hc l5 l6))
        | 18, _ => exact s_swI hk 18 rfl rfl (by decide) (lw_way (by omega) hy hlen hgo h (hc l5 l6))
        | 19, _ => exact s_swI hk 19 rfl rfl (by decide) (lw_round (by omega) hy hlen hgo h (hc l5 l6))
        | 20, _ => exact s_swI hk 20 rfl rfl (by decide) (lw_helper (by omega) hy hlen hgo h (hc l5 l6))
        | 21, _ => exact s_swI hk 21 rfl rfl (by decide) (lw_least (by omega) hy hlen hgo h (hc l5 l6))
        | 22, _ => exact s_swI hk 22 rfl rfl (by decide) (lw_rate (by omega) hy hlen hgo h (hc l5 l6))
        | 23, _ => exact s_swI hk 23 rfl rfl (by decide) (lw_relief (by omega) hy hlen hgo h (hc l5 l6))
        | 24, _ => exact s_swI hk 24 rfl rfl (by decide) (lw_look (by omega) (by omega) hy hlen hgo h (hc))
        | 25, _ => exact s_swI hk 25 rfl rfl (by decide) (lw_count (by omega) hy hlen hgo h (hc l5 l6))
        | j + 26, h26 => exact absurd (Nat.le_add_left 26 j) h26
    · refine s_gt (fun _ => ?_) (fun hq9 => absurd (j_gt (by omega) (by omega)) hq9)
      refine s_step hk rfl rfl rfl ?_
      exact s_iret hk rfl (Or.inr rfl) ⟨rfl, t, by omega, h⟩
theorem j_start {u : Nat} (hu : u ≤ 20000) (y : gH) : J 0 y (84, u, gF y) := by
  have ey : y = gY (fun _ => 0) (fun _ _ => 0) (fun _ => 0) y := by funext j; rfl
  have hI : jI 0 84 u w0 a0 b0 r0 q0 (fun _ => 0) (fun _ _ => 0) (fun _ => 0) 0 0 0 (fun _ => 0) (fun _ => 0) (fun _ => 0) := by
    refine ⟨by omega, by omega, by omega, rfl, by omega, by decide, by decide, ⟨?_, ?_, ?_, ?_, by decide, ?_, ?_, by decide +kernel⟩, ?_, ?_, ?_⟩
    · exact ⟨rfl, 0, by omega, by decide, by decide, fun i hi => absurd hi (by omega)⟩
    · refine ⟨rfl, fun _ _ => 10, fun i hi j hj => ?_, fun _ _ _ _ => (show (10 : Nat) < 100 by decide), fun _ _ _ _ => rfl⟩
      show (if 6 * i + j < 36 then (10 : Int32) else 0) = nI 10
      rw [if_pos (by omega)]; rfl
    · exact ⟨rfl, 0, by omega, by decide, by decide⟩
    · exact ⟨rfl, rfl, fun i hi => ⟨0, 0, by omega, by omega, rfl, rfl⟩⟩
    · intro yr hy
      show (if yr < 10 then (25 : Int32) else 0) = if 0 / 52 ≤ yr then w0 44 39 else _
      rw [if_pos hy, if_pos (by omega)]; rfl
    · intro k hk
      refine ⟨10, by omega, by omega, ?_⟩
      show (if k < 8 then (10 : Int32) else 0) = nI 10
      rw [if_pos hk]; rfl
    · exact ⟨0, 0, [], by omega, by omega, rfl, rfl, by decide, ⟨by decide, ⟨Nat.zero_le _, fun l hl => by cases hl⟩, trivial, Nat.zero_le _⟩, ⟨rfl, ⟨Nat.zero_le _, fun l hl => by cases hl⟩, trivial, Nat.zero_le _⟩⟩
    · refine ⟨by omega, by decide, by decide, ⟨fun t ht => absurd ht (by omega), fun t ht => absurd ht (by omega)⟩, fun t ht => absurd ht (by omega), fun _ _ => rfl, fun _ => rfl, ⟨fun i hi t => ?_, rfl, fun s hs => ?_, fun s k hs hk => ?_, fun s hs => ?_, fun s hs => ?_⟩, fun t ht => absurd ht (by omega), fun t ht => absurd ht (by omega), fun t ht => absurd ht (by omega), fun i hi => ⟨0, by omega, rfl⟩⟩
      · match i, hi with
        | 0, _ => rfl
        | 1, _ => rfl
        | 2, _ => rfl
        | 3, _ => rfl
        | 4, _ => rfl
        | 5, _ => rfl
        | 6, _ => rfl
        | 7, _ => rfl
      · match s, hs with
        | 0, _ => decide
        | 1, _ => decide
        | 2, _ => decide
        | 3, _ => decide
        | 4, _ => decide
      · match s, hs with
        | 0, _ => rfl
        | 1, _ => rfl
        | 2, _ => rfl
        | 3, _ => rfl
        | 4, _ => rfl
      · match s, hs with
        | 0, _ => rfl
        | 1, _ => rfl
        | 2, _ => rfl
        | 3, _ => rfl
        | 4, _ => rfl
      · match s, hs with
        | 0, _ => rfl
        | 1, _ => rfl
        | 2, _ => rfl
        | 3, _ => rfl
        | 4, _ => rfl
    · refine ⟨by omega, by decide, by decide, fun j hj => absurd hj (by omega), fun j hj => absurd hj (by omega), fun j hj => absurd hj (by omega), fun j hj => rfl, fun s k hs hk => ?_⟩
      match s, hs with
      | 0, _ => rfl
      | 1, _ => rfl
      | 2, _ => rfl
      | 3, _ => rfl
      | 4, _ => rfl
  have hJ := J_of (y := y) hI
  rw [← ey] at hJ
  exact hJ
theorem gVx_0 {y : gH} {c : gC} : gset y 0 c = gVx y 0 c 1 (gF y) := by
  funext j
  by_cases e : j = 0
  · subst e; rw [gset_same]; simp [gVx]
  · rw [gset_ne _ _ e]; simp [gVx, e, show ¬ j < 1 by omega]
theorem gVx_44 {y : gH} {c : gC} : gset (gVx y 0 (gF y 0) 44 (gF y)) 44 c = gVx y 44 c 45 (gF y) := by
  funext j
  by_cases e : j = 44
  · subst e; rw [gset_same]; simp [gVx]
  · rw [gset_ne _ _ e]
    by_cases e0 : j = 0
    · subst e0; simp [gVx]
    · by_cases c1 : j < 44
      · simp [gVx, e, e0, c1, show j < 45 by omega]
      · simp [gVx, e, e0, c1, show ¬ j < 45 by omega]
theorem gVx_end {y : gH} : gVx y 44 (gF y 44) 84 (gF y) = gF y := by
  funext j
  by_cases e : j = 44
  · subst e; simp [gVx]
  · by_cases c1 : j < 84
    · simp [gVx, e, c1]
    · have : gF y j = y j := HP_dyn (by omega)
      simp [gVx, e, c1, this]
set_option maxRecDepth 20000 in
theorem law_run {len : Nat} {sc : Nat → Int32} (hy : y 1000000000 = .inl (.int, len, .inl sc)) (hlen : len ≤ 4000) : gX1 70 162 0 [some (.ref 1000000000), none, none, none, none, none, none] [] (0, 0, y) (fun v S' => v = some (.int 1) ∧ ∃ K, K ≤ 600 ∧ J K y S') := by
  have hk : gMT[162]? = some gro_162 := rfl
  refine s_new hk rfl rfl (Nat.le_of_ble_eq_true rfl) ?_
  refine s_step hk rfl rfl rfl ?_
  show gX1 70 162 4 _ _ (1, 18, gset y 0 _) _
  rw [gVx_0]
  refine s_callI hk 0 [] [.ref 0] rfl rfl rfl rfl rfl (by omega) (i_G (by omega)) ?_
  rintro _ _ ⟨rfl, u, hu, rfl⟩
  refine s_step hk rfl rfl rfl ?_
  refine s_new hk rfl rfl (Nat.le_of_ble_eq_true rfl) ?_
  refine s_step hk rfl rfl rfl ?_
  show gX1 70 162 12 _ _ (45, u + 54, gset (gVx y 0 (gF y 0) 44 (gF y)) 44 _) _
  rw [gVx_44]
  refine s_callI hk 44 [] [.ref 44] rfl rfl rfl rfl rfl (by omega) (i_M (by omega) (by omega)) ?_
  rintro _ _ ⟨rfl, u2, hu2, rfl⟩
  iterate 2 refine s_step hk rfl rfl rfl ?_
  refine s_nJ hk 1 rfl rfl rfl rfl ?_
  have e83 : gset (gVx y 44 (gF y 44) 83 (gF y)) 83 (.inl (.long, 1, .inr (.inl (fun _ => 0)))) = gF y := (gVx_new rfl rfl).trans gVx_end
  rw [e83]
  iterate 3 refine s_step hk rfl rfl rfl ?_
  exact lw_loop (by omega) hy hlen len 0 none none _ (by omega) (by omega) (j_start (by omega) y)
end GS2
