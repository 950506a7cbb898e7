/-! ===== rules for walking the small machine ===== -/
def gtx1 : List Nat := [115, 104, 101, 108, 102, 32, 32, 32, 115, 116, 111, 114, 101, 32, 32, 32, 114, 97, 103, 32, 32, 32, 32, 32, 108, 111, 111, 107, 32, 32, 32, 32, 119, 104, 101, 110, 32, 32, 32, 32, 97, 110, 100, 32, 32, 32, 32, 32, 107, 105, 110, 100, 32, 32, 32, 32, 115, 116, 97, 116, 101, 32, 32, 32, 115, 101, 97, 115, 111, 110, 32, 32, 110, 111, 119, 32, 32, 32, 32, 32, 98, 97, 115, 101, 32, 32, 32, 32, 103, 105, 118, 101, 114, 32, 32, 32]
def gsgn (c : Int32) : Int32 := if c = 40 then 0 else if c = 41 then 1 else if c = 60 then 2 else if c = 61 then 3 else if c = 43 then 4 else if c = 45 then 5 else if c = 59 then 6 else -1
/-- the methods that are told by hand -/
def gBI0 : gB := fun j as S v S' => S' = S ∧ ((j = 1000 ∧ (∃ a, as = [.ref a]) ∧ v = none)
  ∨ (j = 1001 ∧ ∃ n, n < 96 ∧ as = [.ref 2000000001, .int (nI n)] ∧ v = some (.int (nI (gtx1.getD n 0))))
  ∨ (j = 1002 ∧ ∃ n, n < 256 ∧ as = [.ref 2000000002, .int (nI n)] ∧ v = some (.int (gsgn (nI n))))
  ∨ (j = 1004 ∧ ∃ x y, as = [.int x, .int y] ∧ v = some (.int (if x < y then y else x)))
  ∨ (j = 1005 ∧ ∃ x y, as = [.int x, .int y] ∧ v = some (.int (if y < x then y else x))))
theorem gBI0_mono : gBmono gBI0 := fun _ _ _ _ _ h => by rw [h.1]; exact ⟨Nat.le_refl _, Nat.le_refl _⟩
theorem gER_up {MT : List gR} {BI BI' : gB} (hBI : ∀ j as S v S', BI j as S v S' → BI' j as S v S') : ∀ (f f' d d' k pc : Nat) (L : gL) (st : List Value) (S : gS) (v : Option Value) (S' : gS), f ≤ f' → d ≤ d' → gER MT BI f d k pc L st S v S' → gER MT BI' f' d' k pc L st S v S' := by
  intro f
  induction f with
  | zero => intro f' d d' k pc L st S v S' _ _ h; exact h.elim
  | succ f ih =>
    intro f' d d' k pc L st S v S' hf hd h
    cases f' with
    | zero => omega
    | succ f' =>
      unfold gER at h ⊢
      split at h
      · exact h.elim
      · rename_i row hrow
        try rw [hrow]
        try dsimp only
        split at h
        · exact h.elim
        · rename_i q hl
          try rw [hl]
          try dsimp only
          split at h
          · exact h
          · exact h
          · unfold gcallP at h ⊢
            split at h
            · obtain ⟨h1, h2, v1, S1, h3, h4⟩ := h
              refine ⟨h1, h2, v1, S1, ?_, ih _ _ _ _ _ _ _ _ _ _ (by omega) hd h4⟩
              split at h3
              · rename_i hj9
                rw [if_pos hj9]
                exact ⟨by omega, hBI _ _ _ _ _ h3.2⟩
              · rename_i hj9
                rw [if_neg hj9]
                obtain ⟨h5, cr, h6, h7, h8, h9⟩ := h3
                exact ⟨by omega, cr, h6, h7, h8, ih _ _ _ _ _ _ _ _ _ _ (by omega) (by omega) h9⟩
            · exact h.elim
          · split at h
            · exact h.elim
            · rename_i o hs
              exact ih _ _ _ _ _ _ _ _ _ _ (by omega) hd h
/-- from this frame the method ends with Q -/
def gX (d k pc : Nat) (L : gL) (st : List Value) (S : gS) (Q : Option Value → gS → Prop) : Prop := ∃ f v S', gER gMT gBI0 f d k pc L st S v S' ∧ Q v S'
/-- called with these values the method ends with Q -/
def gE (d k : Nat) (as : List Value) (S : gS) (Q : Option Value → gS → Prop) : Prop := ∃ row, gMT[k]? = some row ∧ (gent as).length ≤ row.2.2.1 ∧ gX d k 0 (gpad (gent as) row.2.2.1) [] S Q
section GRL
variable {d k pc : Nat} {L : gL} {st : List Value} {S : gS} {Q : Option Value → gS → Prop} {row : gR}
theorem gX_mono {d' : Nat} {Q' : Option Value → gS → Prop} (hd : d ≤ d') (h : gX d k pc L st S Q) (hQ : ∀ v S', Q v S' → Q' v S') : gX d' k pc L st S Q' := by
  obtain ⟨f, v, S', h1, h2⟩ := h
  exact ⟨f, v, S', gER_up (fun _ _ _ _ _ h => h) f f d d' k pc L st S v S' (Nat.le_refl _) hd h1, hQ v S' h2⟩
theorem gE_mono {d' : Nat} {as : List Value} {Q' : Option Value → gS → Prop} (hd : d ≤ d') (h : gE d k as S Q) (hQ : ∀ v S', Q v S' → Q' v S') : gE d' k as S Q' := by
  obtain ⟨row, h1, h2, h3⟩ := h
  exact ⟨row, h1, h2, gX_mono hd h3 hQ⟩
theorem r_in {as : List Value} (hk : gMT[k]? = some row) (L0 : gL) (hl : (gent as).length ≤ row.2.2.1) (hL : gpad (gent as) row.2.2.1 = L0) (h : gX d k 0 L0 [] S Q) : gE d k as S Q := ⟨row, hk, hl, by rw [hL]; exact h⟩
theorem r_step (hk : gMT[k]? = some row) {i : Instr} {len : Nat} {ax : List Nat} {w : Value} {pc' : Nat} {L' : gL} {st' : List Value} {S1 : gS} (hq : glook row.2.2.2.2 pc = some (i, len, ax, w)) (hc : gcls i = 0) (hs : gstep i len ax w pc L st S = some (pc', L', st', S1)) (h : gX d k pc' L' st' S1 Q) : gX d k pc L st S Q := by
  obtain ⟨f, v, S', h1, h2⟩ := h
  refine ⟨f + 1, v, S', ?_, h2⟩
  unfold gER
  rw [hk]
  try dsimp only
  rw [hq]
  try dsimp only
  rw [hc]
  try dsimp only
  rw [hs]
  exact h1
theorem r_ret (hk : gMT[k]? = some row) {len : Nat} {ax : List Nat} {w : Value} (hq : glook row.2.2.2.2 pc = some (.return_, len, ax, w)) (hn : row.2.2.2.1 = none) (h : Q none S) : gX d k pc L [] S Q := by
  refine ⟨1, none, S, ?_, h⟩
  unfold gER
  rw [hk]
  try dsimp only
  rw [hq]
  exact ⟨rfl, rfl, rfl, hn⟩
theorem r_iret (hk : gMT[k]? = some row) {len : Nat} {ax : List Nat} {w : Value} {x : Int32} (hq : glook row.2.2.2.2 pc = some (.ireturn, len, ax, w)) (hn : grok row.2.2.2.1 x) (h : Q (some (.int x)) S) : gX d k pc L [.int x] S Q := by
  refine ⟨1, _, S, ?_, h⟩
  unfold gER
  rw [hk]
  try dsimp only
  rw [hq]
  exact ⟨x, rfl, rfl, rfl, hn⟩
theorem r_call (hk : gMT[k]? = some row) {i : Instr} {len j na : Nat} {ax : List Nat} {w : Value} (as rest : List Value) {P : Option Value → gS → Prop} (hq : glook row.2.2.2.2 pc = some (i, len, j :: na :: ax, w)) (hc : gcls i = 3) (hj : Nat.blt j 1000 = true) (hst : st = as.reverse ++ rest) (hna : as.length = na) (hcat : gcat rest ≤ 8) (hd : 1 ≤ d) (hE : gE (d - 1) j as S P) (hkind : ∀ cr, gMT[j]? = some cr → gkind i S cr.1.cls as)
    (h : ∀ v1 S1, P v1 S1 → gX d k (pc + 3) L (v1.toList ++ rest) S1 Q) : gX d k pc L st S Q := by
  obtain ⟨cr, hcr, hlen, f1, v1, S1, h1, hP⟩ := hE
  obtain ⟨f2, v, S', h2, hQ⟩ := h v1 S1 hP
  have hj2 : ¬ 1000 ≤ j := by
    have := Nat.ble_eq.mp hj
    omega
  subst hst
  subst hna
  have e1 : ((as.reverse ++ rest).take as.length).reverse = as := by
    rw [← List.length_reverse (as := as), List.take_left, List.reverse_reverse]
  have e2 : (as.reverse ++ rest).drop as.length = rest := by
    rw [← List.length_reverse (as := as), List.drop_left]
  refine ⟨f1 + f2 + 1, v, S', ?_, hQ⟩
  unfold gER
  rw [hk]
  try dsimp only
  rw [hq]
  try dsimp only
  rw [hc]
  dsimp only [gcallP]
  rw [e1, e2]
  refine ⟨by simp, hcat, v1, S1, ?_, gER_up (fun _ _ _ _ _ h => h) f2 (f1 + f2) d d k (pc + 3) L _ S1 v S' (by omega) (Nat.le_refl _) h2⟩
  rw [if_neg hj2]
  exact ⟨hd, cr, hcr, hlen, hkind cr hcr, gER_up (fun _ _ _ _ _ h => h) f1 (f1 + f2) (d - 1) (d - 1) j 0 _ [] S v1 S1 (by omega) (Nat.le_refl _) h1⟩
theorem r_bi (hk : gMT[k]? = some row) {i : Instr} {len j na : Nat} {ax : List Nat} {w : Value} (as rest : List Value) {v1 : Option Value} (hq : glook row.2.2.2.2 pc = some (i, len, j :: na :: ax, w)) (hc : gcls i = 3) (hj : Nat.ble 1000 j = true) (hst : st = as.reverse ++ rest) (hna : as.length = na) (hcat : gcat rest ≤ 8) (hd : 10 ≤ d) (hB : gBI0 j as S v1 S)
    (h : gX d k (pc + 3) L (v1.toList ++ rest) S Q) : gX d k pc L st S Q := by
  obtain ⟨f2, v, S', h2, hQ⟩ := h
  have hj2 : 1000 ≤ j := Nat.ble_eq.mp hj
  subst hst
  subst hna
  have e1 : ((as.reverse ++ rest).take as.length).reverse = as := by
    rw [← List.length_reverse (as := as), List.take_left, List.reverse_reverse]
  have e2 : (as.reverse ++ rest).drop as.length = rest := by
    rw [← List.length_reverse (as := as), List.drop_left]
  refine ⟨f2 + 1, v, S', ?_, hQ⟩
  unfold gER
  rw [hk]
  try dsimp only
  rw [hq]
  try dsimp only
  rw [hc]
  dsimp only [gcallP]
  rw [e1, e2]
  refine ⟨by simp, hcat, v1, S, ?_, h2⟩
  rw [if_pos hj2]
  exact ⟨hd, hB⟩
theorem r_eq {x y : Int32} {t f : Nat} (h1 : x = y → gX d k t L st S Q) (h2 : ¬ x = y → gX d k f L st S Q) : gX d k (gbr .eq x y t f) L st S Q := by
  by_cases h : x = y
  · simp only [gbr, if_pos h]; exact h1 h
  · simp only [gbr, if_neg h]; exact h2 h
theorem r_ne {x y : Int32} {t f : Nat} (h1 : ¬ x = y → gX d k t L st S Q) (h2 : x = y → gX d k f L st S Q) : gX d k (gbr .ne x y t f) L st S Q := by
  by_cases h : x = y
  · simp only [gbr, if_neg (not_not_intro h)]; exact h2 h
  · simp only [gbr, if_pos h]; exact h1 h
theorem r_lt {x y : Int32} {t f : Nat} (h1 : x < y → gX d k t L st S Q) (h2 : ¬ x < y → gX d k f L st S Q) : gX d k (gbr .lt x y t f) L st S Q := by
  by_cases h : x < y
  · simp only [gbr, if_pos h]; exact h1 h
  · simp only [gbr, if_neg h]; exact h2 h
theorem r_ge {x y : Int32} {t f : Nat} (h1 : y ≤ x → gX d k t L st S Q) (h2 : ¬ y ≤ x → gX d k f L st S Q) : gX d k (gbr .ge x y t f) L st S Q := by
  by_cases h : y ≤ x
  · simp only [gbr, if_pos h]; exact h1 h
  · simp only [gbr, if_neg h]; exact h2 h
theorem r_gt {x y : Int32} {t f : Nat} (h1 : y < x → gX d k t L st S Q) (h2 : ¬ y < x → gX d k f L st S Q) : gX d k (gbr .gt x y t f) L st S Q := by
  by_cases h : y < x
  · simp only [gbr, if_pos h]; exact h1 h
  · simp only [gbr, if_neg h]; exact h2 h
theorem r_le {x y : Int32} {t f : Nat} (h1 : x ≤ y → gX d k t L st S Q) (h2 : ¬ x ≤ y → gX d k f L st S Q) : gX d k (gbr .le x y t f) L st S Q := by
  by_cases h : x ≤ y
  · simp only [gbr, if_pos h]; exact h1 h
  · simp only [gbr, if_neg h]; exact h2 h
/-! the heap, by what is known of a cell -/
theorem r_get (hk : gMT[k]? = some row) {idx len ci sl a b r : Nat} {w v : Value} {fs : List Value} (hq : glook row.2.2.2.2 pc = some (.getfield idx, len, [ci, sl, a, b], w)) (hh : S.2.2 r = .inr (ci, fs)) (hf : fs[sl]? = some v) (h : gX d k (pc + 3) L (v :: st) S Q) : gX d k pc L (.ref r :: st) S Q :=
  r_step hk hq rfl (by simp only [gstep, gget, hh, Nat.beq_refl, cond_true, hf]) h
theorem r_put (hk : gMT[k]? = some row) {idx len ci sl a b r : Nat} {w v : Value} {fs : List Value} (hq : glook row.2.2.2.2 pc = some (.putfield idx, len, [ci, sl, a, b], w)) (hh : S.2.2 r = .inr (ci, fs)) (hf : (Nat.blt sl fs.length && gfit (gty ci sl) v) = true) (h : gX d k (pc + 3) L st (S.1, S.2.1, gset S.2.2 r (.inr (ci, fs.set sl v))) Q) : gX d k pc L (v :: .ref r :: st) S Q :=
  r_step hk hq rfl (by simp only [gstep, gput, hh, Nat.beq_refl, Bool.true_and, hf, cond_true]) h
theorem r_ald (hk : gMT[k]? = some row) {i : Instr} {len r n : Nat} {ax : List Nat} {w : Value} {ty : FieldType} {x : Int32} {f : Nat → Int32} (hq : glook row.2.2.2.2 pc = some (i, len, ax, w)) (hi : (i = .iaload ∧ ty = .int) ∨ (i = .caload ∧ ty = .char) ∨ (i = .baload ∧ (ty = .boolean ∨ ty = .byte))) (hh : S.2.2 r = .inl (ty, n, .inl f)) (hin : ¬ (x < 0 ∨ n ≤ x.toNatClampNeg)) (h : gX d k (pc + 1) L (.int (f x.toNatClampNeg) :: st) S Q) : gX d k pc L (.int x :: .ref r :: st) S Q := by
  rcases hi with ⟨rfl, rfl⟩ | ⟨rfl, rfl⟩ | ⟨rfl, ht⟩
  · exact r_step hk hq rfl (by simp only [gstep, giald, hh]; rw [if_pos ⟨trivial, hin⟩]) h
  · exact r_step hk hq rfl (by simp only [gstep, giald, hh]; rw [if_pos ⟨trivial, hin⟩]) h
  · exact r_step hk hq rfl (by simp only [gstep, gbald, hh]; rw [if_pos ⟨ht, hin⟩]) h
theorem r_lald (hk : gMT[k]? = some row) {len r n : Nat} {ax : List Nat} {w : Value} {x : Int32} {f : Nat → Int64} (hq : glook row.2.2.2.2 pc = some (.laload, len, ax, w)) (hh : S.2.2 r = .inl (.long, n, .inr (.inl f))) (hin : ¬ (x < 0 ∨ n ≤ x.toNatClampNeg)) (h : gX d k (pc + 1) L (.long (f x.toNatClampNeg) :: st) S Q) : gX d k pc L (.int x :: .ref r :: st) S Q :=
  r_step hk hq rfl (by simp only [gstep, glald, hh]; rw [if_pos ⟨trivial, hin⟩]) h
theorem r_aald (hk : gMT[k]? = some row) {len r n : Nat} {ax : List Nat} {w : Value} {x : Int32} {C : String} {f : Nat → Option Nat} (hq : glook row.2.2.2.2 pc = some (.aaload, len, ax, w)) (hh : S.2.2 r = .inl (.object C, n, .inr (.inr (.inr (.inr f))))) (hin : ¬ (x < 0 ∨ n ≤ x.toNatClampNeg)) (h : gX d k (pc + 1) L (va_rf (f x.toNatClampNeg) :: st) S Q) : gX d k pc L (.int x :: .ref r :: st) S Q :=
  r_step hk hq rfl (by simp only [gstep, gaald, hh]; rw [if_pos hin]) h
theorem r_ast (hk : gMT[k]? = some row) {len r n : Nat} {ax : List Nat} {w : Value} {x y : Int32} {f : Nat → Int32} (hq : glook row.2.2.2.2 pc = some (.iastore, len, ax, w)) (hh : S.2.2 r = .inl (.int, n, .inl f)) (hr : Nat.blt r 1000000000 = true) (hin : ¬ (x < 0 ∨ n ≤ x.toNatClampNeg)) (h : gX d k (pc + 1) L st (S.1, S.2.1, gset S.2.2 r (.inl (.int, n, .inl (upd f x.toNatClampNeg y)))) Q) : gX d k pc L (.int y :: .int x :: .ref r :: st) S Q :=
  r_step hk hq rfl (by simp only [gstep, giast, hh]; rw [if_pos ⟨trivial, hin, trivial, Nat.ble_eq.mp hr⟩]) h
theorem r_zst (hk : gMT[k]? = some row) {len r n : Nat} {ax : List Nat} {w : Value} {x y : Int32} {f : Nat → Int32} (hq : glook row.2.2.2.2 pc = some (.bastore, len, ax, w)) (hh : S.2.2 r = .inl (.boolean, n, .inl f)) (hr : Nat.blt r 1000000000 = true) (hin : ¬ (x < 0 ∨ n ≤ x.toNatClampNeg)) (hy : y = 0 ∨ y = 1) (h : gX d k (pc + 1) L st (S.1, S.2.1, gset S.2.2 r (.inl (.boolean, n, .inl (upd f x.toNatClampNeg y)))) Q) : gX d k pc L (.int y :: .int x :: .ref r :: st) S Q :=
  r_step hk hq rfl (by simp only [gstep, giast, hh]; rw [if_pos ⟨trivial, hin, hy, Nat.ble_eq.mp hr⟩]) h
theorem r_cst (hk : gMT[k]? = some row) {len r n : Nat} {ax : List Nat} {w : Value} {x y : Int32} {f : Nat → Int32} (hq : glook row.2.2.2.2 pc = some (.castore, len, ax, w)) (hh : S.2.2 r = .inl (.char, n, .inl f)) (hr : Nat.blt r 1000000000 = true) (hin : ¬ (x < 0 ∨ n ≤ x.toNatClampNeg)) (hy : vp_nar .char y = y) (h : gX d k (pc + 1) L st (S.1, S.2.1, gset S.2.2 r (.inl (.char, n, .inl (upd f x.toNatClampNeg y)))) Q) : gX d k pc L (.int y :: .int x :: .ref r :: st) S Q :=
  r_step hk hq rfl (by simp only [gstep, giast, hh]; rw [if_pos ⟨trivial, hin, hy, Nat.ble_eq.mp hr⟩]) h
theorem r_lst (hk : gMT[k]? = some row) {len r n : Nat} {ax : List Nat} {w : Value} {x : Int32} {y : Int64} {f : Nat → Int64} (hq : glook row.2.2.2.2 pc = some (.lastore, len, ax, w)) (hh : S.2.2 r = .inl (.long, n, .inr (.inl f))) (hr : Nat.blt r 1000000000 = true) (hin : ¬ (x < 0 ∨ n ≤ x.toNatClampNeg)) (h : gX d k (pc + 1) L st (S.1, S.2.1, gset S.2.2 r (.inl (.long, n, .inr (.inl (vp_updL f x.toNatClampNeg y))))) Q) : gX d k pc L (.long y :: .int x :: .ref r :: st) S Q :=
  r_step hk hq rfl (by simp only [gstep, glast, hh]; rw [if_pos ⟨trivial, hin, Nat.ble_eq.mp hr⟩]) h
theorem r_aast (hk : gMT[k]? = some row) {len r n v ci : Nat} {ax : List Nat} {w : Value} {x : Int32} {C : String} {fs : List Value} {f : Nat → Option Nat} (hq : glook row.2.2.2.2 pc = some (.aastore, len, ax, w)) (hh : S.2.2 r = .inl (.object C, n, .inr (.inr (.inr (.inr f))))) (hv : S.2.2 v = .inr (ci, fs)) (hC : (gcl[ci]?.map (fun q => q.1)) = some C) (hr : Nat.blt r 1000000000 = true) (hin : ¬ (x < 0 ∨ n ≤ x.toNatClampNeg)) (h : gX d k (pc + 1) L st (S.1, S.2.1, gset S.2.2 r (.inl (.object C, n, .inr (.inr (.inr (.inr (va_up f x.toNatClampNeg (some v)))))))) Q) : gX d k pc L (.ref v :: .int x :: .ref r :: st) S Q :=
  r_step hk hq rfl (by simp only [gstep, gaast, hh, hv]; rw [if_pos ⟨hC, hin, Nat.ble_eq.mp hr⟩]) h
theorem r_div (hk : gMT[k]? = some row) {len : Nat} {ax : List Nat} {w : Value} {x y : Int32} (hq : glook row.2.2.2.2 pc = some (.idiv, len, ax, w)) (hy : ¬ y = 0) (h : gX d k (pc + 1) L (.int (x / y) :: st) S Q) : gX d k pc L (.int y :: .int x :: st) S Q :=
  r_step hk hq rfl (by simp only [gstep, if_neg hy]) h
theorem r_rem (hk : gMT[k]? = some row) {len : Nat} {ax : List Nat} {w : Value} {x y : Int32} (hq : glook row.2.2.2.2 pc = some (.irem, len, ax, w)) (hy : ¬ y = 0) (h : gX d k (pc + 1) L (.int (x - x / y * y) :: st) S Q) : gX d k pc L (.int y :: .int x :: st) S Q :=
  r_step hk hq rfl (by simp only [gstep, if_neg hy]) h
theorem r_ldiv (hk : gMT[k]? = some row) {len : Nat} {ax : List Nat} {w : Value} {x y : Int64} (hq : glook row.2.2.2.2 pc = some (.ldiv, len, ax, w)) (hy : ¬ y = 0) (h : gX d k (pc + 1) L (.long (x / y) :: st) S Q) : gX d k pc L (.long y :: .long x :: st) S Q :=
  r_step hk hq rfl (by simp only [gstep, if_neg hy]) h
theorem r_new (hk : gMT[k]? = some row) {idx len ci ps : Nat} {w : Value} {q : vw_C} (hq : glook row.2.2.2.2 pc = some (.new idx, len, [ci, ps], w)) (hc : gcl[ci]? = some q) (hn : S.1 < 1000000) (h : gX d k (pc + 3) L (.ref S.1 :: st) (S.1 + 1, S.2.1 + q.2.2, gset S.2.2 S.1 (.inr (ci, gdv ci q.2.2))) Q) : gX d k pc L st S Q :=
  r_step hk hq rfl (by simp only [gstep, gnew, hc, if_pos hn]) h
end GRL
theorem gset_same (h : gH) (k : Nat) (c : gC) : gset h k c k = c := by simp [gset]
theorem gset_ne (h : gH) {k j : Nat} (c : gC) (hj : j ≠ k) : gset h k c j = h j := by simp [gset, hj]
theorem gset_set (h : gH) (k : Nat) (c c' : gC) : gset (gset h k c) k c' = gset h k c' := by
  funext j
  by_cases e : j = k <;> simp [gset, e]
theorem gset_self (h : gH) (k : Nat) : gset h k (h k) = h := by
  funext j
  by_cases e : j = k <;> simp [gset, e]
theorem gset_swap (h : gH) {k j : Nat} (c c' : gC) (hj : j ≠ k) : gset (gset h k c) j c' = gset (gset h j c') k c := by
  funext i
  simp only [gset]
  by_cases e : i = j
  · have e2 : i ≠ k := fun z => hj (e ▸ z)
    simp [e, hj]
  · by_cases e2 : i = k
    · have e3 : k ≠ j := fun z => hj z.symm
      simp [e2, e3]
    · simp [e, e2]
/-- an index that is a number -/
theorem g_ix {j n : Nat} (h : j < n) (hn : n < 2 ^ 31) : ¬ ((nI j) < 0 ∨ n ≤ (nI j).toNatClampNeg) := nI_in h hn
