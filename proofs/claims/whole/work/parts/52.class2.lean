-- deps: 37 38 39 50 51
/-! ===== the class: a text's value, sorting ===== -/
def gco (e : Nat) : Int32 := if e < 10000 then nI e else if e < 10006 then -1 - nI (e - 10000) else -11 - nI (e - 10010)
def gcP (op : Nat → Int32) : Nat → List Nat → Prop
  | _, [] => True
  | i, e :: p => op i = gco e ∧ gcP op (i + 1) p
/-- the lines of rules e, one behind the other -/
def cLn (a : Nat → Nat → Int32) (e : Nat) : Nat → Nat → kLs → Prop
  | _, _, [] => True
  | i, p, l :: r => a (25 + 5 * e) i = nI l.1 ∧ a (24 + 5 * e) i = nI (p + l.2.length) ∧ gcP (a (23 + 5 * e)) p l.2 ∧ cLn a e (i + 1) (p + l.2.length) r
def cTx (w a : Nat → Nat → Int32) (e : Nat) (ls : kLs) : Prop := w (22 + 5 * e) 5 = nI ls.length ∧ kLsok ls ∧ cLn a e 0 0 ls ∧ klen ls ≤ 600
theorem gcP_cg {op op' : Nat → Int32} : ∀ (p : List Nat) (i : Nat), (∀ j, i ≤ j → j < i + p.length → op' j = op j) → gcP op i p → gcP op' i p := by
  intro p
  induction p with
  | nil => intro i _ _; trivial
  | cons e p ih =>
    intro i h hp
    exact ⟨(h i (Nat.le_refl _) (by simp)).trans hp.1, ih (i + 1) (fun j h1 h2 => h j (by omega) (by simp; omega)) hp.2⟩
theorem gcP_app {op : Nat → Int32} {e : Nat} : ∀ (p : List Nat) (i : Nat), gcP op i p → op (i + p.length) = gco e → gcP op i (p ++ [e]) := by
  intro p
  induction p with
  | nil => intro i _ h; exact ⟨h, trivial⟩
  | cons x p ih =>
    intro i h h1
    exact ⟨h.1, ih (i + 1) h.2 (by rw [show i + 1 + p.length = i + (x :: p).length by simp; omega]; exact h1)⟩
theorem cLn_cg {a a' : Nat → Nat → Int32} {e : Nat} : ∀ (ls : kLs) (i p : Nat), (∀ j, i ≤ j → j < i + ls.length → a' (25 + 5 * e) j = a (25 + 5 * e) j ∧ a' (24 + 5 * e) j = a (24 + 5 * e) j) → (∀ j, p ≤ j → j < p + klen ls → a' (23 + 5 * e) j = a (23 + 5 * e) j) → cLn a e i p ls → cLn a' e i p ls := by
  intro ls
  induction ls with
  | nil => intro i p _ _ _; trivial
  | cons l r ih =>
    intro i p h1 h2 hl
    obtain ⟨q1, q2, q3, q4⟩ := hl
    simp only [klen, List.length_cons] at h1 h2
    exact ⟨(h1 i (Nat.le_refl _) (by omega)).1.trans q1, (h1 i (Nat.le_refl _) (by omega)).2.trans q2, gcP_cg l.2 _ (fun j k1 k2 => h2 j k1 (by omega)) q3, ih (i + 1) (p + l.2.length) (fun j k1 k2 => h1 j (by omega) (by omega)) (fun j k1 k2 => h2 j (by omega) (by omega)) q4⟩
theorem cLn_app {a : Nat → Nat → Int32} {e : Nat} {l : Nat × List Nat} : ∀ (ls : kLs) (i p : Nat), cLn a e i p ls → a (25 + 5 * e) (i + ls.length) = nI l.1 → a (24 + 5 * e) (i + ls.length) = nI (p + klen ls + l.2.length) → gcP (a (23 + 5 * e)) (p + klen ls) l.2 → cLn a e i p (ls ++ [l]) := by
  intro ls
  induction ls with
  | nil => intro i p _ h1 h2 h3; exact ⟨h1, h2, h3, trivial⟩
  | cons m r ih =>
    intro i p hl h1 h2 h3
    obtain ⟨q1, q2, q3, q4⟩ := hl
    have e1 : i + 1 + r.length = i + (m :: r).length := by simp; omega
    have e2 : p + m.2.length + klen r = p + klen (m :: r) := by simp [klen]; omega
    exact ⟨q1, q2, q3, ih (i + 1) (p + m.2.length) q4 (by rw [e1]; exact h1) (by rw [e1, e2]; exact h2) (by rw [e2]; exact h3)⟩
theorem gco_num {e : Nat} (h : e < 10006) : -7 < gco e := by
  unfold gco
  split
  · rename_i h1
    refine Int32.lt_of_lt_of_le (b := 0) (by decide) (nI_pos' (by omega))
  · have : e = 10000 ∨ e = 10001 ∨ e = 10002 ∨ e = 10003 ∨ e = 10004 ∨ e = 10005 := by omega
    rcases this with rfl | rfl | rfl | rfl | rfl | rfl <;> decide
theorem gco_op {e : Nat} (h : 10010 ≤ e ∧ e < 10015) : gco e ≤ -7 := by
  unfold gco
  rw [if_neg (by omega), if_neg (by omega)]
  have : e = 10010 ∨ e = 10011 ∨ e = 10012 ∨ e = 10013 ∨ e = 10014 := by omega
  rcases this with rfl | rfl | rfl | rfl | rfl <;> decide
theorem gco_n {e : Nat} (h : e < 10000) : gco e = nI e := if_pos h
theorem gco_f {e : Nat} (h : ¬ e < 10000) (h6 : e < 10006) : gco e < 0 ∧ -1 - gco e = nI (e - 10000) := by
  unfold gco
  rw [if_neg h, if_pos h6]
  have : e = 10000 ∨ e = 10001 ∨ e = 10002 ∨ e = 10003 ∨ e = 10004 ∨ e = 10005 := by omega
  rcases this with rfl | rfl | rfl | rfl | rfl | rfl <;> decide
def cfa (x a : Nat → Nat → Int32) (T o k : Nat) : Nat → Int32 := fun i => if i = 0 then x o 1 else if i = 1 then x o 2 else if i = 2 then x o 3 else if i = 3 then nI (T / 13 % 4) else if i = 4 then a 19 k else x o 0
section GC2
variable {w a : Nat → Nat → Int32} {b : Nat → Nat → Int64} {r : Nat → Nat → Nat} {q : Nat → Nat → Option Nat} {y : gH} {n u : Nat} {d : Nat}
variable {D : Nat → Nat} {x : Nat → Nat → Int32} {z : Nat → Nat}
theorem c_joined (d : Nat) (S : gS) {o : Nat} (ho : o < 5) (v1 v2 : Int32) : gE d 44 [.int (gco (10010 + o)), .int v1, .int v2] S (gre (gopv o v1 v2) S) := by
  have hk : gMT[44]? = some gro_44 := rfl
  refine r_in hk [some (.int (gco (10010 + o))), some (.int v1), some (.int v2)] (Nat.le_of_ble_eq_true rfl) rfl ?_
  match o, ho with
  | 0, _ =>
    refine r_step hk rfl rfl rfl ?_
    refine r_swI hk 3 rfl (by decide) (by decide) ?_
    iterate 3 refine r_step hk rfl rfl rfl ?_
    refine r_iret hk rfl trivial ?_
    exact ⟨rfl, rfl⟩
  | 1, _ =>
    refine r_step hk rfl rfl rfl ?_
    refine r_swI hk 2 rfl (by decide) (by decide) ?_
    iterate 3 refine r_step hk rfl rfl rfl ?_
    refine r_iret hk rfl trivial ?_
    exact ⟨rfl, rfl⟩
  | 2, _ =>
    refine r_step hk rfl rfl rfl ?_
    refine r_swI hk 1 rfl (by decide) (by decide) ?_
    iterate 3 refine r_step hk rfl rfl rfl ?_
    refine r_ge (fun h42 => ?_) (fun h42 => ?_)
    · refine r_step hk rfl rfl rfl ?_
      refine r_iret hk rfl trivial ?_
      refine ⟨congrArg (fun z => some (Value.int z)) ?_, rfl⟩
      first | exact (if_pos (Int32.not_le.mp h42)).symm | exact (if_neg (Int32.not_lt.mpr h42)).symm
    · iterate 2 refine r_step hk rfl rfl rfl ?_
      refine r_iret hk rfl trivial ?_
      refine ⟨congrArg (fun z => some (Value.int z)) ?_, rfl⟩
      first | exact (if_pos (Int32.not_le.mp h42)).symm | exact (if_neg (Int32.not_lt.mpr h42)).symm
  | 3, _ =>
    refine r_step hk rfl rfl rfl ?_
    refine r_swI hk 0 rfl (by decide) (by decide) ?_
    iterate 3 refine r_step hk rfl rfl rfl ?_
    refine r_ne (fun h53 => ?_) (fun h53 => ?_)
    · refine r_step hk rfl rfl rfl ?_
      refine r_iret hk rfl trivial ?_
      refine ⟨congrArg (fun z => some (Value.int z)) ?_, rfl⟩
      first | exact (if_pos h53).symm | exact (if_neg h53).symm
    · iterate 2 refine r_step hk rfl rfl rfl ?_
      refine r_iret hk rfl trivial ?_
      refine ⟨congrArg (fun z => some (Value.int z)) ?_, rfl⟩
      first | exact (if_pos h53).symm | exact (if_neg h53).symm
  | 4, _ =>
    refine r_step hk rfl rfl rfl ?_
    refine r_swD hk rfl (by decide) ?_
    iterate 2 refine r_step hk rfl rfl rfl ?_
    refine r_eq (fun h63 => ?_) (fun h63 => ?_)
    · refine r_step hk rfl rfl rfl ?_
      refine r_iret hk rfl trivial ?_
      refine ⟨congrArg (fun z => some (Value.int z)) ?_, rfl⟩
      first | (refine (if_neg ?_).symm; exact fun h => h.1 h63) | exact (if_pos ⟨h63, h67⟩).symm | (refine (if_neg ?_).symm; exact fun h => h.2 h67)
    · iterate 2 refine r_step hk rfl rfl rfl ?_
      refine r_eq (fun h67 => ?_) (fun h67 => ?_)
      · refine r_step hk rfl rfl rfl ?_
        refine r_iret hk rfl trivial ?_
        refine ⟨congrArg (fun z => some (Value.int z)) ?_, rfl⟩
        first | (refine (if_neg ?_).symm; exact fun h => h.1 h63) | exact (if_pos ⟨h63, h67⟩).symm | (refine (if_neg ?_).symm; exact fun h => h.2 h67)
      · iterate 2 refine r_step hk rfl rfl rfl ?_
        refine r_iret hk rfl trivial ?_
        refine ⟨congrArg (fun z => some (Value.int z)) ?_, rfl⟩
        first | (refine (if_neg ?_).symm; exact fun h => h.1 h63) | exact (if_pos ⟨h63, h67⟩).symm | (refine (if_neg ?_).symm; exact fun h => h.2 h67)
theorem c_valueOf (hd : 1 ≤ d) {e i0 : Nat} (he : e < 2) {p : List Nat} (hp : gcP (a (23 + 5 * e)) i0 p) (hb : i0 + p.length ≤ 600) (hw : gwf 0 p) : gE d 43 [.ref (22 + 5 * e), .int (nI i0), .int (nI (i0 + p.length)), .ref 34] (n, u, HP w a b r q y) (fun v S' => ∃ a', gag [26 + 5 * e] a a' ∧ v = some (.int (gevv (a 34) p)) ∧ S' = (n, u, HP w a' b r q y)) := by
  have hk : gMT[43]? = some gro_43 := rfl
  refine r_inQ hk [some (.ref (22 + 5 * e)), some (.int (nI i0)), some (.int (nI (i0 + p.length))), some (.ref 34), none, none, none] (Nat.le_of_ble_eq_true rfl) rfl ?_
  intro Q hQ
  have hne : ∀ j, ¬ j = 26 + 5 * e → j ∉ [26 + 5 * e] := fun j hj hm => hj (by simpa using hm)
  have loop : ∀ (p2 : List Nat) (i : Nat) (st : List Int32) (a1 : Nat → Nat → Int32) (l6 : Option Value) (v t : Int32), gcP (a (23 + 5 * e)) i p2 → i + p2.length = i0 + p.length → gwf st.length p2 → st.length ≤ 16 → gag [26 + 5 * e] a a1 → gstk (a1 (26 + 5 * e)) st → gev (a 34) st p2 = gev (a 34) [] p → v = nI i → t = nI st.length →
      gX d 43 6 [some (.ref (22 + 5 * e)), some (.int (nI i0)), some (.int (nI (i0 + p.length))), some (.ref 34), some (.int t), some (.int v), l6] [] (n, u, HP w a1 b r q y) Q := by
    intro p2
    induction p2 with
    | nil =>
      intro i st a1 l6 v t hp2 hb2 hw2 h16 hag hst hev hz ht
      cases st with
      | nil => cases hw2
      | cons x rs =>
        have hrs : rs.length = 0 := by simpa [gwf] using hw2
        have hx0 : a1 (26 + 5 * e) 0 = x := by rw [← hrs]; exact hst.1
        have e9 : nI (i0 + p.length) ≤ v := by rw [hz]; exact nI_le (by simp at hb2; omega) (by simp at hb2; omega)
        iterate 3 refine r_step hk rfl rfl rfl ?_
        refine r_ge (fun _ => ?_) (fun hq9 => absurd e9 hq9)
        refine r_step hk rfl rfl rfl ?_
        refine r_getRA hk rfl he rfl ?_
        refine r_step hk rfl rfl rfl ?_
        refine r_ia hk 0 rfl (HP_rs he) rfl (by decide) rfl ?_
        refine r_iret hk rfl trivial ?_
        exact hQ _ _ ⟨a1, hag, congrArg (fun z => some (Value.int z)) (hx0.trans (by simp only [gevv, ← hev, gev, List.headD_cons])), rfl⟩
    | cons c p2 ih =>
      intro i st a1 l6 v t hp2 hb2 hw2 h16 hag hst hev hz ht
      have e23 : a1 (23 + 5 * e) = a (23 + 5 * e) := hag _ (hne _ (by omega))
      have e34 : a1 34 = a 34 := hag _ (hne _ (by omega))
      obtain ⟨ho, hp3⟩ := hp2
      have hbi : i < 600 := by simp at hb2; omega
      have hb3 : i + 1 + p2.length = i0 + p.length := by simp at hb2; omega
      have hop : a1 (23 + 5 * e) i = gco c := by rw [e23]; exact ho
      have e9 : ¬ nI (i0 + p.length) ≤ v := by rw [hz]; exact nI_ge (by simp at hb2; omega) (by omega)
      rcases hw2 with ⟨h6, hn, hw3⟩ | ⟨h10, h15, hn, hw3⟩
      · have hev2 : gev (a 34) (gval (a 34) c :: st) p2 = gev (a 34) [] p := by rw [← hev]; simp only [gev, h6, if_true]
        have e25 : ¬ a1 (23 + 5 * e) i ≤ -7 := by rw [hop]; exact Int32.not_le.mpr (gco_num h6)
        have e32 : ¬ (16 : Int32) ≤ t := by rw [ht]; exact nI_ge (b := 16) hn (by decide)
        by_cases h0 : c < 10000
        · have ho2 : a1 (23 + 5 * e) i = gval (a 34) c := by rw [hop, gco_n h0]; simp [gval, h0]
          have e43 : ¬ a1 (23 + 5 * e) i < 0 := by rw [hop, gco_n h0]; exact nI_pos (by omega)
          iterate 3 refine r_step hk rfl rfl rfl ?_
          refine r_ge (fun hq9 => absurd hq9 e9) (fun _ => ?_)
          refine r_step hk rfl rfl rfl ?_
          refine r_getRA hk rfl he rfl ?_
          refine r_step hk rfl rfl rfl ?_
          refine r_ia hk i rfl (HP_rc he) hz hbi rfl ?_
          iterate 4 refine r_step hk rfl rfl rfl ?_
          refine r_le (fun hq9 => absurd hq9 e25) (fun _ => ?_)
          iterate 3 refine r_step hk rfl rfl rfl ?_
          refine r_ge (fun hq9 => absurd hq9 e32) (fun _ => ?_)
          refine r_step hk rfl rfl rfl ?_
          refine r_getRA hk rfl he rfl ?_
          iterate 3 refine r_step hk rfl rfl rfl ?_
          refine r_lt (fun hq9 => absurd hq9 e43) (fun _ => ?_)
          iterate 2 refine r_step hk rfl rfl rfl ?_
          refine r_is hk st.length rfl (HP_rs he) (HP_rs he).symm ht (by omega) rfl (Nat.ble_eq.mpr (by omega)) ?_
          iterate 4 refine r_step hk rfl rfl rfl ?_
          exact ih (i + 1) (a1 (23 + 5 * e) i :: st) _ _ _ _ hp3 hb3 hw3 (by simp; omega) (gag_up hag (by simp)) (gstk_push hst) (by rw [ho2]; exact hev2) (nI_s hz) (by simp only [List.length_cons]; exact nI_s ht)
        · obtain ⟨g1, g2⟩ := gco_f h0 h6
          have ho2 : a1 34 (c - 10000) = gval (a 34) c := by rw [e34]; simp [gval, h0]
          have e56 : -1 - a1 (23 + 5 * e) i = nI (c - 10000) := by rw [hop]; exact g2
          have e43 : a1 (23 + 5 * e) i < 0 := by rw [hop]; exact g1
          iterate 3 refine r_step hk rfl rfl rfl ?_
          refine r_ge (fun hq9 => absurd hq9 e9) (fun _ => ?_)
          refine r_step hk rfl rfl rfl ?_
          refine r_getRA hk rfl he rfl ?_
          refine r_step hk rfl rfl rfl ?_
          refine r_ia hk i rfl (HP_rc he) hz hbi rfl ?_
          iterate 4 refine r_step hk rfl rfl rfl ?_
          refine r_le (fun hq9 => absurd hq9 e25) (fun _ => ?_)
          iterate 3 refine r_step hk rfl rfl rfl ?_
          refine r_ge (fun hq9 => absurd hq9 e32) (fun _ => ?_)
          refine r_step hk rfl rfl rfl ?_
          refine r_getRA hk rfl he rfl ?_
          iterate 3 refine r_step hk rfl rfl rfl ?_
          refine r_lt (fun _ => ?_) (fun hq9 => absurd e43 hq9)
          iterate 4 refine r_step hk rfl rfl rfl ?_
          refine r_ia hk (c - 10000) rfl rfl e56 (by omega) rfl ?_
          refine r_is hk st.length rfl (HP_rs he) (HP_rs he).symm ht (by omega) rfl (Nat.ble_eq.mpr (by omega)) ?_
          iterate 4 refine r_step hk rfl rfl rfl ?_
          exact ih (i + 1) (a1 34 (c - 10000) :: st) _ _ _ _ hp3 hb3 hw3 (by simp; omega) (gag_up hag (by simp)) (gstk_push hst) (by rw [ho2]; exact hev2) (nI_s hz) (by simp only [List.length_cons]; exact nI_s ht)
      · match st, hn, hst, hev, hw3, ht, h16 with
        | [], hn, _, _, _, _, _ => simp at hn
        | [x], hn, _, _, _, _, _ => simp at hn
        | z1 :: x1 :: rs, hn, hst, hev, hw3, ht, h16 =>
          have hy : a1 (26 + 5 * e) (rs.length + 1) = z1 := hst.1
          have hx1 : a1 (26 + 5 * e) rs.length = x1 := hst.2.1
          have hrs : gstk (a1 (26 + 5 * e)) rs := hst.2.2
          have hl16 : rs.length + 2 ≤ 16 := by simpa using h16
          have ht1 : t + -1 = nI (rs.length + 1) := by rw [ht]; exact pk_m1 (rs.length + 1)
          have ht2 : t + -1 - 1 = nI rs.length := by rw [ht1]; exact nI_pred _
          have hw4 : gwf (rs.length + 1) p2 := by simpa using hw3
          have hge : ¬ c < 10006 := by omega
          have hev2 : gev (a 34) (gopv (c - 10010) x1 z1 :: rs) p2 = gev (a 34) [] p := by rw [← hev]; simp only [gev, hge, if_false]
          have e25 : a1 (23 + 5 * e) i ≤ -7 := by rw [hop]; exact gco_op ⟨h10, h15⟩
          have e67 : ¬ t ≤ 1 := by rw [ht]; exact fun h => by have := (nI_leI (a := (z1 :: x1 :: rs).length) (b := 1) (by simp; omega) (by omega)).mp h; simp at this
          have hopc : a1 (23 + 5 * e) i = gco (10010 + (c - 10010)) := by rw [hop, show 10010 + (c - 10010) = c by omega]
          iterate 3 refine r_step hk rfl rfl rfl ?_
          refine r_ge (fun hq9 => absurd hq9 e9) (fun _ => ?_)
          refine r_step hk rfl rfl rfl ?_
          refine r_getRA hk rfl he rfl ?_
          refine r_step hk rfl rfl rfl ?_
          refine r_ia hk i rfl (HP_rc he) hz hbi rfl ?_
          iterate 4 refine r_step hk rfl rfl rfl ?_
          refine r_le (fun _ => ?_) (fun hq9 => absurd e25 hq9)
          iterate 3 refine r_step hk rfl rfl rfl ?_
          refine r_le (fun hq9 => absurd hq9 e67) (fun _ => ?_)
          iterate 2 refine r_step hk rfl rfl rfl ?_
          refine r_getRA hk rfl he rfl ?_
          iterate 5 refine r_step hk rfl rfl rfl ?_
          refine r_getRA hk rfl he rfl ?_
          iterate 3 refine r_step hk rfl rfl rfl ?_
          refine r_ia hk rs.length rfl (HP_rs he) ht2 (by omega) rfl ?_
          refine r_step hk rfl rfl rfl ?_
          refine r_getRA hk rfl he rfl ?_
          refine r_step hk rfl rfl rfl ?_
          refine r_ia hk (rs.length + 1) rfl (HP_rs he) ht1 (by omega) rfl ?_
          refine r_callS hk [.int (a1 (23 + 5 * e) i), .int (a1 (26 + 5 * e) rs.length), .int (a1 (26 + 5 * e) (rs.length + 1))] [.int (t + -1 - 1), .ref (26 + 5 * e)] rfl rfl rfl rfl rfl hd (by rw [hopc]; exact c_joined _ _ (by omega) _ _) ?_
          rintro _ _ ⟨rfl, rfl⟩
          rw [hy, hx1]
          refine r_is hk rs.length rfl (HP_rs he) (HP_rs he).symm ht2 (by omega) rfl (Nat.ble_eq.mpr (by omega)) ?_
          iterate 2 refine r_step hk rfl rfl rfl ?_
          exact ih (i + 1) (gopv (c - 10010) x1 z1 :: rs) _ _ _ _ hp3 hb3 hw4 (by simp; omega) (gag_up hag (by simp)) (gstk_push hrs) hev2 (nI_s hz) ht1
  iterate 4 refine r_step hk rfl rfl rfl ?_
  exact loop p i0 [] a _ _ _ hp rfl hw (by decide) gag_rf trivial rfl rfl rfl
theorem c_wayFor (hd : 2 ≤ d) {e : Nat} (he : e < 2) {ls : kLs} (hls : cTx w a e ls) : gE d 42 [.ref (22 + 5 * e), .ref 34] (n, u, HP w a b r q y) (fun v S' => ∃ a', gag [26 + 5 * e] a a' ∧ v = some (.int (nI (gway (a 34) ls))) ∧ S' = (n, u, HP w a' b r q y)) := by
  have hk : gMT[42]? = some gro_42 := rfl
  refine r_inQ hk [some (.ref (22 + 5 * e)), some (.ref 34), none, none] (Nat.le_of_ble_eq_true rfl) rfl ?_
  intro Q hQ
  obtain ⟨hln, hok, hlines, hkl⟩ := hls
  have h16 := hok.1
  have hne : ∀ j, ¬ j = 26 + 5 * e → j ∉ [26 + 5 * e] := fun j hj hm => hj (by simpa using hm)
  have loop : ∀ (rs : kLs) (i p0 : Nat) (a1 : Nat → Nat → Int32) (v f0 : Int32), cLn a e i p0 rs → (∀ l ∈ rs, kw 0 l.2 = some 1) → i + rs.length = ls.length → p0 + klen rs ≤ 600 → gag [26 + 5 * e] a a1 → gway (a 34) rs = gway (a 34) ls → v = nI i → f0 = nI p0 →
      gX d 42 4 [some (.ref (22 + 5 * e)), some (.ref 34), some (.int f0), some (.int v)] [] (n, u, HP w a1 b r q y) Q := by
    intro rs
    induction rs with
    | nil =>
      intro i p0 a1 v f0 hl hk1 hi hp hag hw hz hf
      iterate 2 refine r_step hk rfl rfl rfl ?_
      refine r_getRu hk rfl he rfl ?_
      refine r_step hk rfl rfl rfl ?_
      refine r_ge (fun _ => ?_) (fun hq9 => absurd (show w (22 + 5 * e) 5 ≤ v by rw [hz, hln]; exact nI_le (by simp at hi; omega) (by omega)) hq9)
      refine r_step hk rfl rfl rfl ?_
      refine r_iret hk rfl trivial ?_
      exact hQ _ _ ⟨a1, hag, by rw [← hw]; rfl, rfl⟩
    | cons wp rs ih =>
      intro i p0 a1 v f0 hl hk1 hi hp hag hw hz hf
      have e25 : a1 (25 + 5 * e) = a (25 + 5 * e) := hag _ (hne _ (by omega))
      have e24 : a1 (24 + 5 * e) = a (24 + 5 * e) := hag _ (hne _ (by omega))
      have e23 : a1 (23 + 5 * e) = a (23 + 5 * e) := hag _ (hne _ (by omega))
      have e34 : a1 34 = a 34 := hag _ (hne _ (by omega))
      obtain ⟨q1, q2, q3, q4⟩ := hl
      obtain ⟨wy, p⟩ := wp
      have hi2 : i < ls.length := by simp at hi; omega
      have hkl2 : p0 + p.length + klen rs ≤ 600 := by simp [klen] at hp; omega
      subst hf
      iterate 2 refine r_step hk rfl rfl rfl ?_
      refine r_getRu hk rfl he rfl ?_
      refine r_step hk rfl rfl rfl ?_
      refine r_ge (fun hq9 => absurd hq9 (show ¬ w (22 + 5 * e) 5 ≤ v by rw [hz, hln]; exact nI_ge (by omega) (by omega))) (fun _ => ?_)
      iterate 3 refine r_step hk rfl rfl rfl ?_
      refine r_getRA hk rfl he rfl ?_
      refine r_step hk rfl rfl rfl ?_
      refine r_ia hk i rfl (HP_re he) hz (by omega) rfl ?_
      refine r_step hk rfl rfl rfl ?_
      refine r_callV hk [.ref (22 + 5 * e), .int (nI p0), .int (a1 (24 + 5 * e) i), .ref 34] [] rfl rfl rfl rfl rfl rfl (grcv_ru he _) (by omega) (by rw [e24, q2]; exact c_valueOf (by omega) he (by rw [e23]; exact q3) (by show p0 + p.length ≤ 600; omega) (kw_gwf _ _ (hk1 _ (by simp)))) ?_
      rintro _ _ ⟨a2, hag2, rfl, rfl⟩
      rw [e34]
      refine r_step hk rfl rfl rfl ?_
      refine r_eq (fun h24 => ?_) (fun h24 => ?_)
      · refine r_step hk rfl rfl rfl ?_
        refine r_getRA hk rfl he rfl ?_
        refine r_step hk rfl rfl rfl ?_
        refine r_ia hk i rfl (HP_re he) hz (by omega) rfl ?_
        iterate 3 refine r_step hk rfl rfl rfl ?_
        exact ih (i + 1) (p0 + p.length) a2 _ _ q4 (fun l hl => hk1 l (List.mem_cons_of_mem _ hl)) (by simp at hi; omega) hkl2 (gag_tr hag hag2) (by rw [← hw]; simp only [gway, if_pos h24]) (nI_s hz) (by rw [hag2 _ (hne _ (by omega)), e24]; exact q2)
      · refine r_step hk rfl rfl rfl ?_
        refine r_getRA hk rfl he rfl ?_
        refine r_step hk rfl rfl rfl ?_
        refine r_ia hk i rfl (HP_rw he) hz (by omega) rfl ?_
        refine r_iret hk rfl trivial ?_
        exact hQ _ _ ⟨a2, gag_tr hag hag2, by rw [← hw]; simp only [gway, if_neg h24]; rw [hag2 _ (hne _ (by omega)), e25, q1], rfl⟩
  iterate 4 refine r_step hk rfl rfl rfl ?_
  exact loop ls 0 0 a _ _ hlines (fun l hl => (hok.2 l hl).2.2) (by omega) (by omega) gag_rf rfl rfl rfl
theorem cTx_ag {X : List Nat} {a' : Nat → Nat → Int32} {e : Nat} {ls : kLs} (hag : gag X a a') (h1 : 23 + 5 * e ∉ X) (h2 : 24 + 5 * e ∉ X) (h3 : 25 + 5 * e ∉ X) (h : cTx w a e ls) : cTx w a' e ls := by
  refine ⟨h.1, h.2.1, cLn_cg ls 0 0 (fun j _ _ => ?_) (fun j _ _ => ?_) h.2.2.1, h.2.2.2⟩
  · rw [hag _ h2, hag _ h3]; exact ⟨rfl, rfl⟩
  · rw [hag _ h1]
theorem c_wayByText (hd : 3 ≤ d) {T o k e : Nat} (hT : w 0 16 = nI T) (hT1 : T < 1000) (ho : gisT D o) (hk8 : k < 8) (hkd : x o 1 = nI k) (he : e < 2) (hr : r 0 8 = 22 + 5 * e) {ls : kLs} (hls : cTx w a e ls) : gE d 40 [.ref 0, .ref o] (n, u, HP w a b r q (gY D x z y)) (fun v S' => ∃ a', gag [34, 26 + 5 * e] a a' ∧ v = some (.int (nI (gway (cfa x a T o k) ls))) ∧ S' = (n, u, HP w a' b r q (gY D x z y))) := by
  have hk : gMT[40]? = some gro_40 := rfl
  refine r_inQ hk [some (.ref 0), some (.ref o)] (Nat.le_of_ble_eq_true rfl) rfl ?_
  intro Q hQ
  generalize haF : upd2 (upd2 (upd2 (upd2 (upd2 (upd2 a 34 0 (x o 1)) 34 1 (x o 2)) 34 2 (x o 3)) 34 3 (nI (T / 13 % 4))) 34 4 (a 19 k)) 34 5 (x o 0) = aF
  have hagF : gag [34] a aF := by rw [← haF]; exact gag_up (gag_up (gag_up (gag_up (gag_up (gag_up gag_rf (by decide)) (by decide)) (by decide)) (by decide)) (by decide)) (by decide)
  have hF : ∀ k', k' < 6 → aF 34 k' = cfa x a T o k k' := by
    intro k' hk'
    rw [← haF]
    match k', hk' with
    | 0, _ => rfl
    | 1, _ => rfl
    | 2, _ => rfl
    | 3, _ => rfl
    | 4, _ => rfl
    | 5, _ => rfl
  have hn : ∀ j, j = 23 ∨ j = 24 ∨ j = 25 → j + 5 * e ∉ [34] := by
    intro j hj hm
    simp only [List.mem_singleton] at hm
    omega
  have hlsF : cTx w aF e ls := cTx_ag hagF (hn 23 (by omega)) (hn 24 (by omega)) (hn 25 (by omega)) hls
  iterate 4 refine r_step hk rfl rfl rfl ?_
  refine r_getT hk rfl ho rfl ?_
  refine r_is hk (0) rfl rfl rfl rfl (by decide) rfl rfl ?_
  iterate 4 refine r_step hk rfl rfl rfl ?_
  refine r_getT hk rfl ho rfl ?_
  refine r_is hk (1) rfl rfl rfl rfl (by decide) rfl rfl ?_
  iterate 4 refine r_step hk rfl rfl rfl ?_
  refine r_getT hk rfl ho rfl ?_
  refine r_is hk (2) rfl rfl rfl rfl (by decide) rfl rfl ?_
  iterate 4 refine r_step hk rfl rfl rfl ?_
  refine r_callV hk [.ref 0] [.int 3, .ref 34] rfl rfl rfl rfl rfl rfl rfl (by omega) (c_seasonNow hT hT1) ?_
  rintro _ _ ⟨rfl, rfl⟩
  refine r_is hk (3) rfl rfl rfl rfl (by decide) rfl rfl ?_
  iterate 6 refine r_step hk rfl rfl rfl ?_
  refine r_getT hk rfl ho rfl ?_
  refine r_ia hk (k) rfl rfl hkd hk8 rfl ?_
  refine r_is hk (4) rfl rfl rfl rfl (by decide) rfl rfl ?_
  iterate 4 refine r_step hk rfl rfl rfl ?_
  refine r_getT hk rfl ho rfl ?_
  refine r_is hk (5) rfl rfl rfl rfl (by decide) rfl rfl ?_
  refine r_step hk rfl rfl rfl ?_
  refine r_step hk rfl rfl rfl ?_
  rw [hr]
  iterate 2 refine r_step hk rfl rfl rfl ?_
  rw [show upd2 (upd2 (upd2 (upd2 (upd2 (upd2 a 34 0 (x o 1)) 34 1 (x o 2)) 34 2 (x o 3)) 34 3 (nI (T / 13 % 4))) 34 4 (upd2 (upd2 (upd2 (upd2 a 34 0 (x o 1)) 34 1 (x o 2)) 34 2 (x o 3)) 34 3 (nI (T / 13 % 4)) 19 k)) 34 5 (x o 0) = aF from haF]
  refine r_callV hk [.ref (22 + 5 * e), .ref 34] [] rfl rfl rfl rfl rfl rfl (grcv_ru he _) (by omega) (c_wayFor (by omega) he hlsF) ?_
  rintro _ _ ⟨a2, hag2, rfl, rfl⟩
  refine r_iret hk rfl trivial ?_
  exact hQ _ _ ⟨a2, gag_tr (gag_sub hagF (by simp)) (gag_sub hag2 (by simp)), by rw [gway_congr hF], rfl⟩
end GC2
