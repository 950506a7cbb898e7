-- deps: 37 38 39 43 44 45 46 47 48
/-! ===== the reference reads a text: lines, the text ===== -/
/-- the lines of a half, one behind the other -/
def kLn (a : Nat → Nat → Int32) (h : Nat) : Nat → Nat → kLs → Prop
  | _, _, [] => True
  | i, p, l :: r => a 51 (16 * h + i) = nI l.1 ∧ a 52 (16 * h + i) = nI (660 * h + p) ∧ gmP (a 53) (a 54) (660 * h + p) l.2 ∧ kLn a h (i + 1) (p + l.2.length + 1) r
def kTx (a : Nat → Nat → Int32) (h : Nat) (ls : kLs) : Prop := a 50 h = nI ls.length ∧ kLsok ls ∧ kLn a h 0 0 ls ∧ klen ls + ls.length ≤ 601
theorem gmP_cg {op one op' one' : Nat → Int32} : ∀ (p : List Nat) (i : Nat), (∀ j, i ≤ j → j ≤ i + p.length → op' j = op j ∧ one' j = one j) → gmP op one i p → gmP op' one' i p := by
  intro p
  induction p with
  | nil => intro i h hp; exact (h i (Nat.le_refl _) (by simp)).1.trans hp
  | cons e p ih =>
    intro i h hp
    obtain ⟨e1, e2⟩ := h i (Nat.le_refl _) (by simp)
    exact ⟨e1.trans hp.1, fun z => e2.trans (hp.2.1 z), ih (i + 1) (fun j h1 h2 => h j (by omega) (by simp; omega)) hp.2.2⟩
theorem kMc_gmP {a : Nat → Nat → Int32} : ∀ (cs : List Nat) (i : Nat), kMc a i cs → a 53 (i + cs.length) = 0 → gmP (a 53) (a 54) i cs := by
  intro cs
  induction cs with
  | nil => intro i _ h; exact h
  | cons e p ih =>
    intro i h h0
    exact ⟨h.1, h.2.1, ih (i + 1) h.2.2 (by rw [show i + 1 + p.length = i + (e :: p).length by simp; omega]; exact h0)⟩
theorem kLn_cg {a a' : Nat → Nat → Int32} {h : Nat} : ∀ (ls : kLs) (i p : Nat), (∀ j, i ≤ j → j < i + ls.length → a' 51 (16 * h + j) = a 51 (16 * h + j) ∧ a' 52 (16 * h + j) = a 52 (16 * h + j)) → (∀ j, p ≤ j → j < p + klen ls + ls.length → a' 53 (660 * h + j) = a 53 (660 * h + j) ∧ a' 54 (660 * h + j) = a 54 (660 * h + j)) → kLn a h i p ls → kLn a' h i p ls := by
  intro ls
  induction ls with
  | nil => intro i p _ _ _; trivial
  | cons l r ih =>
    intro i p h1 h2 hl
    obtain ⟨q1, q2, q3, q4⟩ := hl
    simp only [klen, List.length_cons] at h1 h2
    refine ⟨(h1 i (Nat.le_refl _) (by omega)).1.trans q1, (h1 i (Nat.le_refl _) (by omega)).2.trans q2, gmP_cg l.2 _ (fun j k1 k2 => ?_) q3, ih (i + 1) (p + l.2.length + 1) (fun j k1 k2 => h1 j (by omega) (by omega)) (fun j k1 k2 => h2 j (by omega) (by omega)) q4⟩
    have := h2 (j - 660 * h) (by omega) (by omega)
    rw [show 660 * h + (j - 660 * h) = j by omega] at this
    exact this
theorem kLn_app {a : Nat → Nat → Int32} {h : Nat} {l : Nat × List Nat} : ∀ (ls : kLs) (i p : Nat), kLn a h i p ls → a 51 (16 * h + (i + ls.length)) = nI l.1 → a 52 (16 * h + (i + ls.length)) = nI (660 * h + (p + klen ls + ls.length)) → gmP (a 53) (a 54) (660 * h + (p + klen ls + ls.length)) l.2 → kLn a h i p (ls ++ [l]) := by
  intro ls
  induction ls with
  | nil => intro i p _ h1 h2 h3; exact ⟨h1, h2, h3, trivial⟩
  | cons m r ih =>
    intro i p hl h1 h2 h3
    obtain ⟨q1, q2, q3, q4⟩ := hl
    have e1 : i + 1 + r.length = i + (m :: r).length := by simp; omega
    have e2 : p + m.2.length + 1 + klen r + r.length = p + klen (m :: r) + (m :: r).length := by simp [klen]; omega
    exact ⟨q1, q2, q3, ih (i + 1) (p + m.2.length + 1) q4 (by rw [e1]; exact h1) (by rw [e1, e2]; exact h2) (by rw [e2]; exact h3)⟩
theorem kLn_gm {a : Nat → Nat → Int32} {h : Nat} (hh : h < 2) : ∀ (ls : kLs) (i p : Nat), p + klen ls + ls.length ≤ 601 → (∀ l ∈ ls, 1 ≤ l.1 ∧ l.1 ≤ 4 ∧ kw 0 l.2 = some 1) → kLn a h i p ls → gmLs a h i ls := by
  intro ls
  induction ls with
  | nil => intro i p _ _ _; trivial
  | cons l r ih =>
    intro i p hp hok hl
    obtain ⟨q1, q2, q3, q4⟩ := hl
    simp only [klen, List.length_cons] at hp
    obtain ⟨o1, o2, o3⟩ := hok l (by simp)
    exact ⟨⟨660 * h + p, q1, q2, by omega, q3, kw_gwf l.2 0 o3, o1, o2⟩, ih (i + 1) (p + l.2.length + 1) (by omega) (fun m hm => hok m (List.mem_cons_of_mem _ hm)) q4⟩
theorem kTx_gm {a : Nat → Nat → Int32} {h : Nat} {ls : kLs} (hh : h < 2) (ht : kTx a h ls) : gmText a h ls := ⟨ht.1, ht.2.1.1, kLn_gm hh ls 0 0 (by have := ht.2.2.2; omega) ht.2.1.2 ht.2.2.1⟩
/-- what reading into half h2 leaves alone -/
def kfL (h2 : Nat) (w a w' a' : Nat → Nat → Int32) : Prop := (∀ j, j ≠ 44 → w' j = w j) ∧ (∀ s, s ∉ [7, 8, 17, 18] → w' 44 s = w 44 s) ∧ gag [50, 51, 52, 53, 54, 55, 56, 57] a a' ∧ (∀ i, (i < 660 * h2 ∨ 660 * h2 + 660 ≤ i) → a' 53 i = a 53 i ∧ a' 54 i = a 54 i) ∧ (∀ i, (i < 16 * h2 ∨ 16 * h2 + 16 ≤ i) → a' 51 i = a 51 i ∧ a' 52 i = a 52 i) ∧ ∀ i, i ≠ h2 → a' 50 i = a 50 i
theorem kfL_rf {h2 : Nat} {w a : Nat → Nat → Int32} : kfL h2 w a w a := ⟨fun _ _ => rfl, fun _ _ => rfl, gag_rf, fun _ _ => ⟨rfl, rfl⟩, fun _ _ => ⟨rfl, rfl⟩, fun _ _ => rfl⟩
theorem kfL_tr {h2 : Nat} {w a w1 a1 w2 a2 : Nat → Nat → Int32} (h : kfL h2 w a w1 a1) (k : kfL h2 w1 a1 w2 a2) : kfL h2 w a w2 a2 := ⟨fun j hj => (k.1 j hj).trans (h.1 j hj), fun s hs => (k.2.1 s hs).trans (h.2.1 s hs), gag_tr h.2.2.1 k.2.2.1, fun i hi => ⟨(k.2.2.2.1 i hi).1.trans (h.2.2.2.1 i hi).1, (k.2.2.2.1 i hi).2.trans (h.2.2.2.1 i hi).2⟩, fun i hi => ⟨(k.2.2.2.2.1 i hi).1.trans (h.2.2.2.2.1 i hi).1, (k.2.2.2.2.1 i hi).2.trans (h.2.2.2.2.1 i hi).2⟩, fun i hi => (k.2.2.2.2.2 i hi).trans (h.2.2.2.2.2 i hi)⟩
theorem kfL_r {h2 base : Nat} {w a w1 a1 : Nat → Nat → Int32} (h : kfr h2 base w a w1 a1) : kfL h2 w a w1 a1 := ⟨h.1, h.2.1, gag_sub h.2.2.1 (by decide), fun i hi => h.2.2.2 i (by omega), fun i _ => ⟨by rw [h.2.2.1 51 (by decide)], by rw [h.2.2.1 52 (by decide)]⟩, fun i _ => by rw [h.2.2.1 50 (by decide)]⟩
theorem kfL_w {h2 : Nat} {w a w1 a1 : Nat → Nat → Int32} (h : kfL h2 w a w1 a1) {s : Nat} (hs : s ∈ [7, 8, 17, 18]) (x : Int32) : kfL h2 w a (upd2 w1 44 s x) a1 := kfL_tr h (kfL_r (base := 0) (kfr_w kfr_rf hs x))
theorem kfL_l {h2 i : Nat} {w a w1 a1 : Nat → Nat → Int32} (h : kfL h2 w a w1 a1) (hi : i < 16) {j : Nat} (hj : j = 51 ∨ j = 52) (x : Int32) : kfL h2 w a w1 (upd2 a1 j (16 * h2 + i) x) := by
  refine kfL_tr h ⟨fun _ _ => rfl, fun _ _ => rfl, gag_up gag_rf (by simp only [List.mem_cons, List.not_mem_nil, or_false]; omega), fun t _ => ?_, fun t ht => ?_, fun t _ => ?_⟩
  · rw [upd2_row _ _ _ _ (by omega : (53 : Nat) ≠ j), upd2_row _ _ _ _ (by omega : (54 : Nat) ≠ j)]; exact ⟨rfl, rfl⟩
  · have e : ¬ t = 16 * h2 + i := by omega
    rcases hj with rfl | rfl
    · rw [upd2_at, if_neg e, upd2_row _ _ _ _ (by decide)]; exact ⟨rfl, rfl⟩
    · rw [upd2_at, if_neg e, upd2_row _ _ _ _ (by decide)]; exact ⟨rfl, rfl⟩
  · rw [upd2_row _ _ _ _ (by omega : (50 : Nat) ≠ j)]
theorem kfL_n {h2 : Nat} {w a w1 a1 : Nat → Nat → Int32} (h : kfL h2 w a w1 a1) (x : Int32) : kfL h2 w a w1 (upd2 a1 50 h2 x) := by
  refine kfL_tr h ⟨fun _ _ => rfl, fun _ _ => rfl, gag_up gag_rf (by decide), fun t _ => ?_, fun t _ => ?_, fun t ht => ?_⟩
  · rw [upd2_row _ _ _ _ (by decide), upd2_row _ _ _ _ (by decide)]; exact ⟨rfl, rfl⟩
  · rw [upd2_row _ _ _ _ (by decide), upd2_row _ _ _ _ (by decide)]; exact ⟨rfl, rfl⟩
  · rw [upd2_at, if_neg ht]
theorem kTx_o {h h2 : Nat} {w a w1 a1 : Nat → Nat → Int32} {ls : kLs} (hf : kfL h2 w a w1 a1) (hh : h < 2) (hh2 : h2 < 2) (hn : h ≠ h2) (ht : kTx a h ls) : kTx a1 h ls := by
  obtain ⟨t1, t2, t3, t4⟩ := ht
  obtain ⟨f1, f2, f3, f4, f5, f6⟩ := hf
  refine ⟨(f6 h hn).trans t1, t2, kLn_cg ls 0 0 (fun j _ hj => f5 _ ?_) (fun j _ hj => f4 _ ?_) t3, t4⟩
  · have := t2.1; omega
  · omega
/-- at the beginning of a line -/
def kMl (w a : Nat → Nat → Int32) (b : Nat → Nat → Int64) (h2 idx : Nat) (ts : List kTok) (ls : kLs) : Prop := w 44 8 = 0 ∧ w 44 7 = nI idx ∧ idx + ts.length ≤ 602 ∧ kTrs a b idx ts ∧ kpl ts ∧ w 44 16 = nI h2 ∧ h2 < 2 ∧ w 44 17 = nI (klen ls + ls.length) ∧ a 50 h2 = nI ls.length ∧ kLn a h2 0 0 ls
section GM17
variable {w a : Nat → Nat → Int32} {b : Nat → Nat → Int64} {r : Nat → Nat → Nat} {q : Nat → Nat → Option Nat} {y : gH} {n u : Nat} {d : Nat}
theorem m_isSignF (hf : ¬ w 44 8 = 0) (c : Int32) : gE d 110 [.ref 44, .int c] (n, u, HP w a b r q y) (gre 0 (n, u, HP w a b r q y)) := by
  have hk : gMT[110]? = some gro_110 := rfl
  refine r_in hk [some (.ref 44), some (.int c)] (Nat.le_of_ble_eq_true rfl) rfl ?_
  iterate 3 refine r_step hk rfl rfl rfl ?_
  refine r_ne (fun _ => ?_) (fun hq9 => absurd hq9 hf)
  refine r_step hk rfl rfl rfl ?_
  refine r_iret hk rfl (Or.inl rfl) ?_
  exact ⟨rfl, rfl⟩
theorem m_wrongF (hf : ¬ w 44 8 = 0) (c : Int32) : gE d 104 [.ref 44, .int c] (n, u, HP w a b r q y) (fun v S' => v = none ∧ S' = (n, u, HP w a b r q y)) := by
  have hk : gMT[104]? = some gro_104 := rfl
  refine r_in hk [some (.ref 44), some (.int c)] (Nat.le_of_ble_eq_true rfl) rfl ?_
  iterate 3 refine r_step hk rfl rfl rfl ?_
  refine r_ne (fun _ => ?_) (fun hq9 => absurd hq9 hf)
  refine r_ret hk rfl rfl ?_
  exact ⟨rfl, rfl⟩
theorem m_takeSignF (hd : 1 ≤ d) (hf : ¬ w 44 8 = 0) (c : Int32) : gE d 114 [.ref 44, .int c] (n, u, HP w a b r q y) (fun v S' => v = none ∧ S' = (n, u, HP w a b r q y)) := by
  have hk : gMT[114]? = some gro_114 := rfl
  refine r_in hk [some (.ref 44), some (.int c)] (Nat.le_of_ble_eq_true rfl) rfl ?_
  iterate 2 refine r_step hk rfl rfl rfl ?_
  refine r_callV hk [.ref 44, .int c] [] rfl rfl rfl rfl rfl rfl rfl hd (m_isSignF hf c) ?_
  rintro _ _ ⟨rfl, rfl⟩
  refine r_step hk rfl rfl rfl ?_
  refine r_eq (fun _ => ?_) (fun hq9 => absurd (by decide) hq9)
  iterate 2 refine r_step hk rfl rfl rfl ?_
  refine r_callV hk [.ref 44, .int 1] [] rfl rfl rfl rfl rfl rfl rfl hd (m_wrongF hf 1) ?_
  rintro _ _ ⟨rfl, rfl⟩
  refine r_ret hk rfl rfl ?_
  exact ⟨rfl, rfl⟩
theorem m_gobF (hf : ¬ w 44 8 = 0) : gE d 113 [.ref 44] (n, u, HP w a b r q y) (gre 0 (n, u, HP w a b r q y)) := by
  have hk : gMT[113]? = some gro_113 := rfl
  refine r_in hk [some (.ref 44)] (Nat.le_of_ble_eq_true rfl) rfl ?_
  iterate 3 refine r_step hk rfl rfl rfl ?_
  refine r_ne (fun _ => ?_) (fun hq9 => absurd hq9 hf)
  refine r_step hk rfl rfl rfl ?_
  refine r_iret hk rfl (Or.inl rfl) ?_
  exact ⟨rfl, rfl⟩
def kQl (n u : Nat) (b : Nat → Nat → Int64) (r : Nat → Nat → Nat) (q : Nat → Nat → Option Nat) (y : gH) (h2 : Nat) (ts : List kTok) (ls : kLs) (w a : Nat → Nat → Int32) : Option Value → gS → Prop := fun v S' => v = none ∧ ∃ w' a', kfL h2 w a w' a' ∧ S' = (n, u, HP w' a' b r q y) ∧ ((∃ idx' ts' ls', ls'.length = ls.length + 1 ∧ kR (kT ts ls) (kT ts' ls') ∧ kMl w' a' b h2 idx' ts' ls') ∨ (∃ f, 1 ≤ f ∧ f < 10000 ∧ w' 44 8 = nI f ∧ kR (kT ts ls) (kF f)))
theorem m_line (hd : 4 ≤ d) {h2 idx K : Nat} {ts : List kTok} {ls : kLs} (hwd : ∀ k, k < 12 → b 49 k = lN (kwd.getD k 0)) (hK : K ≤ 601) (hin : kinv K (kT ts ls)) (hne : (khd ts).1 ≠ 301) (h : kMl w a b h2 idx ts ls) :
    gE d 102 [.ref 44] (n, u, HP w a b r q y) (kQl n u b r q y h2 ts ls w a) := by
  have hk : gMT[102]? = some gro_102 := rfl
  refine r_in hk [some (.ref 44), none, none, none] (Nat.le_of_ble_eq_true rfl) rfl ?_
  generalize hQ : kQl n u b r q y h2 ts ls w a = Q
  obtain ⟨j1, j2, j3⟩ := hin
  have hts : ts ≠ [] := j2.1
  have hlt := klen_tl j2
  have hin0 : kinv K (kT ts ls) := ⟨j1, j2, j3⟩
  obtain ⟨i1, i2, i3, i4, i5, i6, i7, i8, i9, i10⟩ := h
  have hix : idx < 602 := by omega
  have htr := kTrs_hd i4 hts
  have hpl : (khd ts).2.2 ≤ 600 := i5 _ (khd_mem j2)
  have hl16 := j1.1
  have kst : kstep (kT ts ls) = if (khd ts).1 = 301 then kE ls else if ¬ (200 ≤ (khd ts).1 ∧ (khd ts).1 < 204) then kfl 1 ts else if ls.length = 16 then kfl 5 ts else if ¬ (khd ts.tail).1 = 204 then kfl 1 ts.tail else kA [(0, 0, 0)] ts.tail.tail [] ls ((khd ts).1 - 199) := rfl
  rw [if_neg hne] at kst
  -- a fault at the line's head
  have flt : ∀ (f : Nat) (L : gL), L = [some (.ref 44), gl L 1, gl L 2, gl L 3] → 1 ≤ f → f < 10000 → kR (kT ts ls) (kF f) → gX d 102 55 L [] (n, u, HP (upd2 w 44 8 (nI f)) a b r q y) Q := by
    intro f L hL hf1 hf2 hR
    rw [hL]
    iterate 3 refine r_step hk rfl rfl rfl ?_
    refine r_le (fun hq9 => absurd hq9 (show ¬ upd2 w 44 8 (nI f) 44 8 ≤ 0 by rw [upd2_same]; exact nI_nle (by omega) (by omega))) (fun _ => ?_)
    refine r_ret hk rfl rfl ?_
    rw [← hQ]
    exact ⟨rfl, _, a, kfL_w kfL_rf (by decide) _, rfl, Or.inr ⟨f, hf1, hf2, upd2_same _ _ _ _, hR⟩⟩
  -- the line's end with a fault
  have fle : ∀ (w1 a1 : Nat → Nat → Int32) (x1 x2 x3 : Option Value) (f c0 lc : Nat), kfL h2 w a w1 a1 → a1 50 h2 = nI lc → w1 44 8 = nI f → 1 ≤ f → f < 10000 → c0 < 660 → w1 44 17 = nI c0 → kR (kT ts ls) (kF f) → gX d 102 169 [some (.ref 44), x1, x2, x3] [] (n, u, HP w1 a1 b r q y) Q := by
    intro w1 a1 x1 x2 x3 f c0 lc hfr hlc h8 hf1 hf2 hc0 h17 hR
    have h16 : w1 44 16 = nI h2 := (hfr.2.1 16 (by decide)).trans i6
    have hf0 : ¬ w1 44 8 = 0 := by rw [h8]; exact nI_ne0 (by omega) (by omega)
    iterate 3 refine r_step hk rfl rfl rfl ?_
    refine r_callV hk [.ref 44, .int 0, .int 0] [] rfl rfl rfl rfl rfl rfl rfl (by omega) (m_emit h16 i7 h17 hc0 0 0) ?_
    rintro _ _ ⟨rfl, rfl⟩
    iterate 2 refine r_step hk rfl rfl rfl ?_
    refine r_callV hk [.ref 44, .int 59] [] rfl rfl rfl rfl rfl rfl rfl (by omega) (m_takeSignF (w := upd2 w1 44 17 (nI (c0 + 1))) (by omega) hf0 59) ?_
    rintro _ _ ⟨rfl, rfl⟩
    iterate 5 refine r_step hk rfl rfl rfl ?_
    refine r_ia hk (h2) rfl rfl h16 (by omega) rfl ?_
    iterate 2 refine r_step hk rfl rfl rfl ?_
    refine r_is hk (h2) rfl rfl rfl h16 (by omega) rfl rfl ?_
    refine r_ret hk rfl rfl ?_
    rw [← hQ]
    exact ⟨rfl, _, _, kfL_n (kfL_tr hfr (kfL_r (kfr_e (base := 0) kfr_rf (Nat.zero_le _) hc0 _ _ _))) _, rfl, Or.inr ⟨f, hf1, hf2, h8, hR⟩⟩
  have main : ∀ (k : Nat) (x : Int32), k < 4 → x = nI k → (khd ts).1 = 200 + k → ¬ ls.length = 16 → gX d 102 63 [some (.ref 44), some (.int x), none, none] [] (n, u, HP w a b r q y) Q := by
    intro k x hk4 hx hhd h16
    subst hx
    rw [if_neg (fun z => z ⟨by omega, by omega⟩), if_neg h16] at kst
    have hts2 : kTsok ts.tail := kTsok_tl j2 (by omega)
    have htl := klen_tl hts2
    have i4t : kTrs a b (idx + 1) ts.tail := by
      cases ts with
      | nil => exact absurd rfl hts
      | cons t rr => exact i4.2
    have htr2 := kTrs_hd i4t hts2.1
    have hpl2 : (khd ts.tail).2.2 ≤ 600 := i5 _ (List.mem_of_mem_tail (khd_mem hts2))
    have e7 : w 44 7 + 1 = nI (idx + 1) := by rw [i2]; exact nI_1 idx
    have eix : 16 * w 44 16 + a 50 h2 = nI (16 * h2 + ls.length) := by rw [i6, i9]; exact nI_16 h2 ls.length
    have e660 : 660 * w 44 16 + w 44 17 = nI (660 * h2 + (klen ls + ls.length)) := by rw [i6, i8]; exact nI_660 _ _
    have ek1 : nI k + 1 = nI (k + 1) := nI_1 k
    iterate 5 refine r_step hk rfl rfl rfl ?_
    refine r_putI hk rfl rfl rfl rfl ?_
    rw [e7]
    iterate 8 refine r_step hk rfl rfl rfl ?_
    refine r_ia hk h2 rfl rfl i6 (by omega) rfl ?_
    iterate 8 refine r_step hk rfl rfl rfl ?_
    refine r_is hk (16 * h2 + ls.length) rfl rfl rfl eix (by omega) rfl rfl ?_
    iterate 2 refine r_step hk rfl rfl rfl ?_
    refine r_callV hk [.ref 44, .int 4] [] rfl rfl rfl rfl rfl rfl rfl (by omega) (m_takeWord (w := upd2 w 44 7 (nI (idx + 1))) (a := upd2 a 51 (16 * h2 + ls.length) (nI k + 1)) (t := khd ts.tail) (idx := idx + 1) (by omega) hwd i1 (upd2_same _ _ _ _) (by omega) (kTr_cg rfl rfl rfl htr2) (c := 4) (by decide)) ?_
    rintro _ _ ⟨rfl, ⟨hwh, rfl⟩ | ⟨hwh, rfl⟩⟩
    · -- the word is there
      rw [if_neg (fun z => z hwh)] at kst
      have hR0 : kR (kT ts ls) (kA [(0, 0, 0)] ts.tail.tail [] ls (k + 1)) := by
        have := kR_end (kR_rf (kT ts ls)) kst
        rw [show (khd ts).1 - 199 = k + 1 by omega] at this
        exact this
      have hinA := kinv_R hin0 hR0
      have hts3 : kTsok ts.tail.tail := hinA.2.2.2.2.2.2.2.2.1
      have hbase : klen ls + ls.length = klen ls + ls.length := rfl
      -- the state as the loop is entered
      generalize hwB : upd2 (upd2 (upd2 w 44 7 (nI (idx + 1))) 44 7 (nI (idx + 1 + 1))) 44 18 0 = wB
      generalize haB : upd2 (upd2 (upd2 (upd2 (upd2 a 51 (16 * h2 + ls.length) (nI k + 1)) 52 (16 * h2 + ls.length) (nI (660 * h2 + (klen ls + ls.length)))) 55 0 0) 56 0 0) 57 0 0 = aB
      have hfB : kfL h2 w a wB aB := by
        rw [← hwB, ← haB]
        refine kfL_w (kfL_w (kfL_w ?_ (by decide) _) (by decide) _) (by decide) _
        exact kfL_tr (kfL_l (kfL_l kfL_rf (by omega) (Or.inl rfl) _) (by omega) (Or.inr rfl) _) (kfL_r (base := 0) (kfr_a (kfr_a (kfr_a kfr_rf (by decide) _ _) (by decide) _ _) (by decide) _ _))
      have hmB : kMs wB aB b h2 (klen ls + ls.length) (idx + 1 + 1) [(0, 0, 0)] ts.tail.tail [] := by
        rw [← hwB, ← haB]
        refine ⟨i1, rfl, by omega, ?_, fun t ht => i5 t (List.mem_of_mem_tail (List.mem_of_mem_tail ht)), i6, i7, i8, trivial, rfl, rfl, rfl, rfl, trivial⟩
        refine kTrs_row (a := a) rfl rfl ?_
        cases ht9 : ts.tail with
        | nil => exact absurd ht9 hts2.1
        | cons t rr => rw [ht9] at i4t; exact i4t.2
      have h51B : aB 51 (16 * h2 + ls.length) = nI (k + 1) := by rw [← haB, ← ek1]; simp [upd2]
      have h52B : aB 52 (16 * h2 + ls.length) = nI (660 * h2 + (klen ls + ls.length)) := by rw [← haB]; simp [upd2]
      have h50B : aB 50 h2 = nI ls.length := by rw [← haB]; exact i9
      have hLnB : kLn aB h2 0 0 ls := by
        rw [← haB]
        refine kLn_cg (a := a) ls 0 0 (fun j _ hj => ?_) (fun j _ hj => ⟨rfl, rfl⟩) i10
        have e : ¬ j = ls.length := by omega
        simp [upd2, e]
      -- the line's end
      have endX : ∀ (w1 a1 : Nat → Nat → Int32) (x1 x2 x3 : Option Value) (idx1 : Nat) (ts1 : List kTok) (cs : List Nat), kR (kT ts ls) (kX ts1 cs ls (k + 1)) → kfr h2 (klen ls + ls.length) wB aB w1 a1 → kMs w1 a1 b h2 (klen ls + ls.length) idx1 [(0, 0, 0)] ts1 cs → gX d 102 169 [some (.ref 44), x1, x2, x3] [] (n, u, HP w1 a1 b r q y) Q := by
        intro w1 a1 x1 x2 x3 idx1 ts1 cs hR hfr hm
        obtain ⟨l1, l2, l3, l4, l5, l6, l7⟩ := kinv_R hin0 hR
        have hts1 := l6.1
        have hlt1 := klen_tl l6
        obtain ⟨hix1, htr1, hpl1⟩ := kMs_ix hm hts1
        obtain ⟨m1, m2, m3, m4, m5, m6, m7, m8, m9, m10, m11⟩ := hm
        have hcl : klen ls + ls.length + cs.length < 660 := by omega
        have h50 : a1 50 h2 = nI ls.length := by rw [hfr.2.2.1 50 (by decide)]; exact h50B
        have kst2 : kstep (kX ts1 cs ls (k + 1)) = if (khd ts1).1 = 59 then kT ts1.tail (ls ++ [(k + 1, cs)]) else kfl 1 ts1 := rfl
        iterate 3 refine r_step hk rfl rfl rfl ?_
        refine r_callV hk [.ref 44, .int 0, .int 0] [] rfl rfl rfl rfl rfl rfl rfl (by omega) (m_emit m6 m7 m8 hcl 0 0) ?_
        rintro _ _ ⟨rfl, rfl⟩
        iterate 2 refine r_step hk rfl rfl rfl ?_
        have hfE := kfr_e hfr (Nat.le_add_right (klen ls + ls.length) cs.length) hcl (nI (klen ls + ls.length + cs.length + 1)) 0 0
        generalize haE : upd2 (upd2 a1 53 (660 * h2 + (klen ls + ls.length + cs.length)) 0) 54 (660 * h2 + (klen ls + ls.length + cs.length)) 0 = aE at hfE ⊢
        generalize hwE : upd2 w1 44 17 (nI (klen ls + ls.length + cs.length + 1)) = wE at hfE ⊢
        have e8 : wE 44 8 = 0 := by rw [← hwE]; exact m1
        have e7 : wE 44 7 = nI idx1 := by rw [← hwE]; exact m2
        have e16 : wE 44 16 = nI h2 := by rw [← hwE]; exact m6
        have e17 : wE 44 17 = nI (klen ls + ls.length + cs.length + 1) := by rw [← hwE]; rfl
        have t4 : kTrs aE b idx1 ts1 := by rw [← haE]; exact kTrs_row (a := a1) rfl rfl m4
        have t50 : aE 50 h2 = nI ls.length := by rw [← haE]; exact h50
        have e53 : ∀ j, ¬ j = 660 * h2 + (klen ls + ls.length + cs.length) → aE 53 j = a1 53 j ∧ aE 54 j = a1 54 j := by
          intro j hj
          rw [← haE]
          simp [upd2, hj]
        have e0 : aE 53 (660 * h2 + (klen ls + ls.length) + cs.length) = 0 := by
          rw [← haE, show 660 * h2 + (klen ls + ls.length) + cs.length = 660 * h2 + (klen ls + ls.length + cs.length) by omega]
          simp [upd2]
        have hgm : gmP (aE 53) (aE 54) (660 * h2 + (klen ls + ls.length)) cs := kMc_gmP cs _ (kMc_cg cs _ (fun j _ hj => e53 j (by omega)) m9) e0
        have hg51 : aE 51 = aB 51 := hfE.2.2.1 51 (by decide)
        have hg52 : aE 52 = aB 52 := hfE.2.2.1 52 (by decide)
        have hLnE : kLn aE h2 0 0 ls := kLn_cg ls 0 0 (fun j _ _ => by rw [hg51, hg52]; exact ⟨rfl, rfl⟩) (fun j _ hj => hfE.2.2.2 _ (by omega)) hLnB
        have hLn2 : kLn aE h2 0 0 (ls ++ [(k + 1, cs)]) := kLn_app ls 0 0 hLnE (by rw [hg51, Nat.zero_add]; exact h51B) (by rw [hg52, Nat.zero_add, Nat.zero_add]; exact h52B) (by rw [Nat.zero_add]; exact hgm)
        refine r_callV hk [.ref 44, .int 59] [] rfl rfl rfl rfl rfl rfl rfl (by omega) (m_takeSign (w := wE) (a := aE) (by omega) e8 e7 hix1 (kTrs_hd t4 hts1) (c := 59) rfl) ?_
        rintro _ _ ⟨rfl, ⟨h59, rfl⟩ | ⟨h59, rfl⟩⟩
        · rw [if_pos h59] at kst2
          have e50 : aE 50 h2 + 1 = nI (ls.length + 1) := by rw [t50]; exact nI_1 _
          iterate 5 refine r_step hk rfl rfl rfl ?_
          refine r_ia hk (h2) rfl rfl e16 (by omega) rfl ?_
          iterate 2 refine r_step hk rfl rfl rfl ?_
          refine r_is hk (h2) rfl rfl rfl e16 (by omega) rfl rfl ?_
          refine r_ret hk rfl rfl ?_
          rw [← hQ, e50]
          refine ⟨rfl, _, _, kfL_n (kfL_w (kfL_tr hfB (kfL_r hfE)) (by decide) _) _, rfl, Or.inl ⟨idx1 + 1, ts1.tail, ls ++ [(k + 1, cs)], by simp, kR_end hR kst2, e8, rfl, by omega, ?_, fun t ht => m5 t (List.mem_of_mem_tail ht), e16, m7, ?_, ?_, ?_⟩⟩
          (refine kTrs_row (a := aE) rfl rfl ?_; cases ts1 with | nil => exact absurd rfl hts1 | cons t rr => exact t4.2)
          (show wE 44 17 = _; rw [e17, klen_app]; simp [klen]; congr 1; omega)
          (rw [upd2_same]; simp)
          exact kLn_cg (a := aE) (ls ++ [(k + 1, cs)]) 0 0 (fun j _ _ => ⟨rfl, rfl⟩) (fun j _ _ => ⟨rfl, rfl⟩) hLn2
        · rw [if_neg h59] at kst2
          iterate 5 refine r_step hk rfl rfl rfl ?_
          refine r_ia hk (h2) rfl rfl e16 (by omega) rfl ?_
          iterate 2 refine r_step hk rfl rfl rfl ?_
          refine r_is hk (h2) rfl rfl rfl e16 (by omega) rfl rfl ?_
          refine r_ret hk rfl rfl ?_
          rw [← hQ]
          exact ⟨rfl, _, _, kfL_n (kfL_w (kfL_tr hfB (kfL_r hfE)) (by decide) _) _, rfl, Or.inr ⟨1 + 16 * (khd ts1).2.2, by omega, by omega, upd2_same _ _ _ _, kR_end hR kst2⟩⟩
      have loop : ∀ (kk : Nat) (w1 a1 : Nat → Nat → Int32) (idx1 : Nat) (stk : List kWt) (ts1 : List kTok) (cs : List Nat) (x1 x2 : Int32), ts1.length ≤ kk → kR (kT ts ls) (kA stk ts1 cs ls (k + 1)) → kfr h2 (klen ls + ls.length) wB aB w1 a1 → kMs w1 a1 b h2 (klen ls + ls.length) idx1 stk ts1 cs → gX d 102 135 [some (.ref 44), some (.int x1), some (.int x2), some (.int 1)] [] (n, u, HP w1 a1 b r q y) Q := by
        intro kk
        induction kk with
        | zero =>
          intro w1 a1 idx1 stk ts1 cs x1 x2 hl hR hfr hm
          have l := kinv_R hin0 hR
          exact absurd (List.length_eq_zero_iff.mp (by omega)) l.2.2.2.2.2.2.2.2.1.1
        | succ kk ih =>
          intro w1 a1 idx1 stk ts1 cs x1 x2 hl hR hfr hm
          have hinL := kinv_R hin0 hR
          have hlt1 := klen_tl hinL.2.2.2.2.2.2.2.2.1
          have m1 := hm.1
          have fin : ∀ (w2 a2 : Nat → Nat → Int32) (f c0 : Nat) (x1 x2 : Int32), kfr h2 (klen ls + ls.length) wB aB w2 a2 → w2 44 8 = nI f → 1 ≤ f → f < 10000 → c0 < 660 → w2 44 17 = nI c0 → kR (kT ts ls) (kF f) → gX d 102 157 [some (.ref 44), some (.int x1), some (.int x2), some (.int 1)] [.int 0] (n, u, HP w2 a2 b r q y) Q := by
            intro w2 a2 f c0 x1 x2 hfr2 h8 hf1 hf2 hc0 h17 hR2
            refine r_step hk rfl rfl rfl ?_
            refine r_eq (fun _ => ?_) (fun hq9 => absurd (show (0 : Int32) = 0 from rfl) hq9)
            iterate 5 refine r_step hk rfl rfl rfl ?_
            refine r_eq (fun _ => ?_) (fun hq9 => absurd (show (0 : Int32) = 0 from rfl) hq9)
            exact fle w2 a2 _ _ _ f c0 ls.length (kfL_tr hfB (kfL_r hfr2)) (by rw [hfr2.2.2.1 50 (by decide)]; exact h50B) h8 hf1 hf2 hc0 h17 hR2
          iterate 2 refine r_step hk rfl rfl rfl ?_
          refine r_eq (fun hq9 => absurd hq9 (by decide)) (fun _ => ?_)
          iterate 3 refine r_step hk rfl rfl rfl ?_
          refine r_ne (fun hq9 => absurd m1 hq9) (fun _ => ?_)
          refine r_step hk rfl rfl rfl ?_
          refine r_callV hk [.ref 44] [] rfl rfl rfl rfl rfl rfl rfl (by omega) (m_part (by omega) hwd rfl hK hinL hm) ?_
          rintro _ _ ⟨w2, a2, hf2, rfl, ⟨rfl, hm2, hs2⟩ | ⟨rfl, hm2, hs2⟩ | ⟨rfl, f, hf1, hf3, h8, ⟨c0, hc0, h17⟩, hs2⟩⟩
          · skip
            refine r_step hk rfl rfl rfl ?_
            refine r_ne (fun _ => ?_) (fun hq9 => absurd hq9 (by decide))
            iterate 4 refine r_step hk rfl rfl rfl ?_
            exact ih w2 a2 (idx1 + 1) _ ts1.tail cs _ _ (by omega) (kR_end hR hs2) (kfr_tr hfr hf2) hm2
          · refine r_step hk rfl rfl rfl ?_
            refine r_ne (fun hq9 => absurd rfl hq9) (fun _ => ?_)
            refine r_step hk rfl rfl rfl ?_
            refine r_callV hk [.ref 44] [] rfl rfl rfl rfl rfl rfl rfl (by omega) (P := kQb n u b r q y h2 (klen ls + ls.length) ls (k + 1) (kT ts ls) ts1.length wB aB) (r_in rfl [some (.ref 44)] (Nat.le_of_ble_eq_true rfl) rfl (m_gob (by omega) hwd rfl hK hin0 ts1.tail.length w2 a2 (idx1 + 1) stk ts1.tail (cs ++ [kcode (khd ts1)]) (Nat.le_refl _) (by omega) (kR_end hR hs2) (kfr_tr hfr hf2) hm2)) ?_
            rintro _ _ ⟨w3, a3, hf3, rfl, ⟨rfl, idx3, stk3, ts3, cs3, hl3, hR3, hm3⟩ | ⟨rfl, idx3, ts3, cs3, hR3, hm3⟩ | ⟨rfl, f, hf1, hf4, h8, ⟨c0, hc0, h17⟩, hR3⟩⟩
            · skip
              refine r_step hk rfl rfl rfl ?_
              refine r_eq (fun hq9 => absurd hq9 (by decide)) (fun _ => ?_)
              iterate 4 refine r_step hk rfl rfl rfl ?_
              exact ih w3 a3 idx3 stk3 ts3 cs3 _ _ (by omega) hR3 hf3 hm3
            · skip
              refine r_step hk rfl rfl rfl ?_
              refine r_eq (fun _ => ?_) (fun hq9 => absurd (show (0 : Int32) = 0 from rfl) hq9)
              iterate 5 refine r_step hk rfl rfl rfl ?_
              refine r_eq (fun _ => ?_) (fun hq9 => absurd (show (0 : Int32) = 0 from rfl) hq9)
              exact endX w3 a3 _ _ _ idx3 ts3 cs3 hR3 hf3 hm3
            · exact fin w3 a3 f c0 _ _ hf3 h8 hf1 hf4 hc0 h17 hR3
          · refine r_step hk rfl rfl rfl ?_
            refine r_ne (fun hq9 => absurd rfl hq9) (fun _ => ?_)
            refine r_step hk rfl rfl rfl ?_
            refine r_callV hk [.ref 44] [] rfl rfl rfl rfl rfl rfl rfl (by omega) (m_gobF (by rw [h8]; exact nI_ne0 (by omega) (by omega))) ?_
            rintro _ _ ⟨rfl, rfl⟩
            exact fin w2 a2 f c0 _ _ (kfr_tr hfr hf2) h8 hf1 hf3 hc0 h17 (kR_end hR hs2)
      iterate 10 refine r_step hk rfl rfl rfl ?_
      refine r_is hk (16 * h2 + ls.length) rfl rfl rfl eix (by omega) rfl rfl ?_
      iterate 2 refine r_step hk rfl rfl rfl ?_
      refine r_putI hk rfl rfl rfl rfl ?_
      refine r_step hk rfl rfl rfl ?_
      have e661 : 660 * upd2 (upd2 w 44 7 (nI (idx + 1))) 44 7 (nI (idx + 1 + 1)) 44 16 + upd2 (upd2 w 44 7 (nI (idx + 1))) 44 7 (nI (idx + 1 + 1)) 44 17 = nI (660 * h2 + (klen ls + ls.length)) := e660
      rw [e661, hwB]
      refine r_callV hk [.ref 44] [] rfl rfl rfl rfl rfl rfl rfl (by omega) (m_opens (w := wB) (dp := 0) (by rw [← hwB]; rfl) (by decide)) ?_
      rintro _ _ ⟨rfl, rfl⟩
      rw [haB]
      iterate 2 refine r_step hk rfl rfl rfl ?_
      exact loop ts.tail.tail.length wB aB (idx + 1 + 1) _ ts.tail.tail [] _ _ (Nat.le_refl _) hR0 kfr_rf hmB
    · rw [if_pos hwh] at kst
      iterate 10 refine r_step hk rfl rfl rfl ?_
      refine r_is hk (16 * h2 + ls.length) rfl rfl rfl eix (by omega) rfl rfl ?_
      iterate 2 refine r_step hk rfl rfl rfl ?_
      refine r_putI hk rfl rfl rfl rfl ?_
      refine r_step hk rfl rfl rfl ?_
      refine r_callV hk [.ref 44] [] rfl rfl rfl rfl rfl rfl rfl (by omega) (m_opens (w := upd2 (upd2 (upd2 w 44 7 (nI (idx + 1))) 44 8 (nI (1 + 16 * (khd ts.tail).2.2))) 44 18 0) (dp := 0) rfl (by decide)) ?_
      rintro _ _ ⟨rfl, rfl⟩
      iterate 4 refine r_step hk rfl rfl rfl ?_
      refine r_eq (fun hq9 => absurd hq9 (show ¬ (1 : Int32) = 0 by decide)) (fun _ => ?_)
      iterate 3 refine r_step hk rfl rfl rfl ?_
      refine r_ne (fun _ => ?_) (fun hq9 => absurd hq9 (show ¬ nI (1 + 16 * (khd ts.tail).2.2) = 0 from nI_ne0 (by omega) (by omega)))
      exact fle _ _ _ _ _ (1 + 16 * (khd ts.tail).2.2) (klen ls + ls.length) ls.length (kfL_w (kfL_w (kfL_w (kfL_tr (kfL_l (kfL_l kfL_rf (by omega) (Or.inl rfl) _) (by omega) (Or.inr rfl) _) (kfL_r (base := 0) (kfr_a (kfr_a (kfr_a kfr_rf (by decide) _ _) (by decide) _ _) (by decide) _ _))) (by decide) _) (by decide) _) (by decide) _) i9 rfl (by omega) (by omega) (by omega) i8 (kR_end (kR_rf _) kst)
  have wl : ∀ k, k ≤ 4 → ∀ x : Int32, x = nI k → (∀ j, j < k → ¬ (khd ts).1 = 200 + j) → gX d 102 2 [some (.ref 44), some (.int x), none, none] [] (n, u, HP w a b r q y) Q := by
    refine g_down ?_ ?_
    · intro x hx hno
      subst hx
      have kst1 := kst
      rw [if_pos (by intro z; exact hno ((khd ts).1 - 200) (by omega) (by omega))] at kst1
      iterate 3 refine r_step hk rfl rfl rfl ?_
      refine r_ge (fun _ => ?_) (fun hq9 => absurd (by decide) hq9)
      iterate 3 refine r_step hk rfl rfl rfl ?_
      refine r_ne (fun hq9 => absurd (show nI 4 = 4 from rfl) hq9) (fun _ => ?_)
      iterate 2 refine r_step hk rfl rfl rfl ?_
      refine r_callV hk [.ref 44, .int 1] [] rfl rfl rfl rfl rfl rfl rfl (by omega) (m_wrong i1 i2 hix htr 1) ?_
      rintro _ _ ⟨rfl, rfl⟩
      refine r_step hk rfl rfl rfl ?_
      exact flt _ _ rfl (by omega) (by omega) (kR_end (kR_rf _) kst1)
    · intro k hk4 ih x hx hno
      subst hx
      have e0 : (0 : Int32) + nI k = nI k := Int32.zero_add _
      have k4 : ¬ nI k = 4 := by
        intro z
        have := nI_inj (j := 4) z (by omega) (by omega)
        omega
      iterate 2 refine r_step hk rfl rfl rfl ?_
      refine r_step hk rfl rfl rfl ?_
      refine r_ge (fun hq9 => absurd hq9 (show ¬ nI 4 ≤ nI k from nI_ge hk4 (by decide))) (fun _ => ?_)
      iterate 4 refine r_step hk rfl rfl rfl ?_
      refine r_callV hk [.ref 44, .int (0 + nI k)] [] rfl rfl rfl rfl rfl rfl rfl (by omega) (by rw [e0]; exact m_isWord hwd i1 i2 hix htr (by omega)) ?_
      rintro _ _ ⟨⟨hs, rfl⟩ | ⟨hs, rfl⟩, rfl⟩
      · by_cases h16 : ls.length = 16
        · have kst1 := kst
          rw [if_neg (fun z => z ⟨by omega, by omega⟩), if_pos h16] at kst1
          refine r_step hk rfl rfl rfl ?_
          refine r_ne (fun _ => ?_) (fun hq9 => absurd hq9 (by decide))
          iterate 3 refine r_step hk rfl rfl rfl ?_
          refine r_ne (fun _ => ?_) (fun hq9 => absurd hq9 k4)
          iterate 4 refine r_step hk rfl rfl rfl ?_
          refine r_ia hk (h2) rfl rfl i6 (by omega) rfl ?_
          iterate 2 refine r_step hk rfl rfl rfl ?_
          refine r_ne (fun hq9 => absurd (show a 50 h2 = 16 by rw [i9, h16]; rfl) hq9) (fun _ => ?_)
          iterate 2 refine r_step hk rfl rfl rfl ?_
          refine r_callV hk [.ref 44, .int 5] [] rfl rfl rfl rfl rfl rfl rfl (by omega) (m_wrong i1 i2 hix htr 5) ?_
          rintro _ _ ⟨rfl, rfl⟩
          exact flt _ _ rfl (by omega) (by omega) (kR_end (kR_rf _) kst1)
        · have h47 : ¬ a 50 h2 = 16 := by
            rw [i9]
            intro z
            have := nI_inj (j := 16) z (by omega) (by omega)
            omega
          have h59 : w 44 8 ≤ 0 := by rw [i1]; decide
          refine r_step hk rfl rfl rfl ?_
          refine r_ne (fun _ => ?_) (fun hq9 => absurd hq9 (by decide))
          iterate 3 refine r_step hk rfl rfl rfl ?_
          refine r_ne (fun _ => ?_) (fun hq9 => absurd hq9 k4)
          iterate 4 refine r_step hk rfl rfl rfl ?_
          refine r_ia hk (h2) rfl rfl i6 (by omega) rfl ?_
          iterate 2 refine r_step hk rfl rfl rfl ?_
          refine r_ne (fun _ => ?_) (fun hq9 => absurd hq9 h47)
          iterate 3 refine r_step hk rfl rfl rfl ?_
          refine r_le (fun _ => ?_) (fun hq9 => absurd h59 hq9)
          exact main k _ hk4 rfl hs h16
      · skip
        refine r_step hk rfl rfl rfl ?_
        refine r_ne (fun hq9 => absurd (show (0 : Int32) = 0 from rfl) hq9) (fun _ => ?_)
        iterate 2 refine r_step hk rfl rfl rfl ?_
        exact ih _ (nI_1 k) (fun j hj => by by_cases e : j = k; (subst e; exact hs); exact hno j (by omega))
  iterate 2 refine r_step hk rfl rfl rfl ?_
  exact wl 0 (by omega) _ rfl (fun j hj => absurd hj (by omega))
/-- a text read: by its fault, or by its lines in the other half -/
def kQt (ls0 : kLs) (h : Nat) (st : kSt) (a' : Nat → Nat → Int32) (h' : Nat) (v : Option Value) : Prop := (∃ ls, kR st (kE ls) ∧ v = some (.int 0) ∧ h' = 1 - h ∧ kTx a' h' ls) ∨ (∃ f, 1 ≤ f ∧ f < 10000 ∧ kR st (kF f) ∧ v = some (.int (nI f)) ∧ h' = h ∧ kTx a' h' ls0)
theorem m_text (hd : 5 ≤ d) {len h : Nat} {f : Nat → Nat} {ls0 : kLs} (hwd : ∀ k, k < 12 → b 49 k = lN (kwd.getD k 0)) (hl : w 44 2 = nI len) (hl6 : len ≤ 600) (hf : ∀ i, i < len → a 45 i = nI (f i) ∧ f i < 128) (hh : w 44 15 = nI h) (hh2 : h < 2) (ht0 : kTx a h ls0) :
    gE d 96 [.ref 44] (n, u, HP w a b r q y) (fun v S' => ∃ w' a' b' h', (∀ j, j ≠ 44 → w' j = w j) ∧ (∀ s, s ∉ [0, 2, 3, 7, 8, 15, 16, 17, 18] → w' 44 s = w 44 s) ∧ gag [46, 47, 50, 51, 52, 53, 54, 55, 56, 57] a a' ∧ gagb [48] b b' ∧ w' 44 0 = 0 ∧ w' 44 2 = 0 ∧ w' 44 15 = nI h' ∧ h' < 2 ∧ kQt ls0 h (kT (ktl f len 0) []) a' h' v ∧ S' = (n, u, HP w' a' b' r q y)) := by
  have hk : gMT[96]? = some gro_96 := rfl
  refine r_inQ hk [some (.ref 44)] (Nat.le_of_ble_eq_true rfl) rfl ?_
  intro Q hQ
  obtain ⟨hok, hlen⟩ := ktl_ne (f := f) (len := len) (p := 0) (Nat.zero_le _)
  have hin0 : kinv 601 (kT (ktl f len 0) []) := ⟨⟨Nat.zero_le _, fun l hl => by cases hl⟩, hok, by simp [klen]; omega⟩
  have hpl : kpl (ktl f len 0) := fun t ht => by have := ktl_pl (f := f) (len := len) (len - 0) 0 (Nat.zero_le _) (Nat.le_refl _) t ht; omega
  have loop : ∀ (k : Nat) (wB aB : Nat → Nat → Int32) (b1 : Nat → Nat → Int64) (w1 a1 : Nat → Nat → Int32) (idx : Nat) (ts : List kTok) (ls : kLs), 17 - ls.length ≤ k → (∀ k, k < 12 → b1 49 k = lN (kwd.getD k 0)) → (∀ j, j ≠ 44 → wB j = w j) → (∀ s, s ∉ [0, 2, 3, 7, 8, 15, 16, 17, 18] → wB 44 s = w 44 s) → wB 44 0 = 0 → wB 44 2 = 0 → wB 44 15 = nI h → gag [46, 47, 50, 51, 52, 53, 54, 55, 56, 57] a aB → gagb [48] b b1 → kTx aB h ls0 → kfL (1 - h) wB aB w1 a1 → kR (kT (ktl f len 0) []) (kT ts ls) → kMl w1 a1 b1 (1 - h) idx ts ls → gX d 96 34 [some (.ref 44)] [] (n, u, HP w1 a1 b1 r q y) Q := by
    intro k
    induction k with
    | zero =>
      intro wB aB b1 w1 a1 idx ts ls hk0 hwd1 g1 g2 g3 g4 g5 g6 g7 g8 hfr hR hm
      have := (kinv_R hin0 hR).1.1
      omega
    | succ k ih =>
      intro wB aB b1 w1 a1 idx ts ls hk0 hwd1 g1 g2 g3 g4 g5 g6 g7 g8 hfr hR hm
      have hinL := kinv_R hin0 hR
      have hts : ts ≠ [] := hinL.2.1.1
      have hm0 := hm
      obtain ⟨i1, i2, i3, i4, i5, i6, i7, i8, i9, i10⟩ := hm
      have hix : idx < 602 := by
        have : ts.length ≠ 0 := fun e => hts (List.length_eq_zero_iff.mp e)
        omega
      have hend := kTr_end (kTrs_hd i4 hts)
      have w15 : w1 44 15 = nI h := (hfr.2.1 15 (by decide)).trans g5
      by_cases he : (khd ts).1 = 301
      · have kst : kstep (kT ts ls) = kE ls := if_pos he
        iterate 3 refine r_step hk rfl rfl rfl ?_
        refine r_ne (fun hq9 => absurd i1 hq9) (fun _ => ?_)
        iterate 4 refine r_step hk rfl rfl rfl ?_
        refine r_ia hk (idx) rfl rfl i2 hix rfl ?_
        refine r_step hk rfl rfl rfl ?_
        refine r_eq (fun _ => ?_) (fun hq9 => absurd (hend.mpr he) hq9)
        iterate 3 refine r_step hk rfl rfl rfl ?_
        refine r_ne (fun hq9 => absurd i1 hq9) (fun _ => ?_)
        iterate 3 refine r_step hk rfl rfl rfl ?_
        refine r_putI hk rfl rfl rfl rfl ?_
        iterate 2 refine r_step hk rfl rfl rfl ?_
        refine r_iret hk rfl trivial ?_
        rw [show upd2 w1 44 15 (w1 44 16) 44 8 = 0 from i1]
        rw [i6]
        refine hQ _ _ ⟨_, a1, b1, 1 - h, ?_, ?_, ?_, g7, ?_, ?_, upd2_same _ _ _ _, i7, Or.inl ⟨ls, kR_end hR kst, rfl, rfl, ⟨i9, hinL.1, i10, by have := hinL.2.2; have := klen_tl hinL.2.1; omega⟩⟩, rfl⟩
        exact (fun j hj => by rw [upd2_row _ _ _ _ hj]; exact (hfr.1 j hj).trans (g1 j hj))
        exact (fun s hs => by rw [upd2_col _ _ _ _ (fun e => hs (by rw [e]; decide))]; exact (hfr.2.1 s (fun z => hs (by simp only [List.mem_cons, List.not_mem_nil, or_false] at z ⊢; omega))).trans (g2 s hs))
        exact gag_tr g6 (gag_sub hfr.2.2.1 (by decide))
        exact (hfr.2.1 0 (by decide)).trans g3
        exact (hfr.2.1 2 (by decide)).trans g4
      · iterate 3 refine r_step hk rfl rfl rfl ?_
        refine r_ne (fun hq9 => absurd i1 hq9) (fun _ => ?_)
        iterate 4 refine r_step hk rfl rfl rfl ?_
        refine r_ia hk idx rfl rfl i2 hix rfl ?_
        refine r_step hk rfl rfl rfl ?_
        refine r_eq (fun hq9 => absurd (hend.mp hq9) he) (fun _ => ?_)
        refine r_step hk rfl rfl rfl ?_
        refine r_callV hk [.ref 44] [] rfl rfl rfl rfl rfl rfl rfl (by omega) (m_line (by omega) hwd1 (Nat.le_refl _) hinL he hm0) ?_
        rintro _ _ ⟨rfl, w2, a2, hf2, rfl, ⟨idx2, ts2, ls2, hl2, hR2, hm2⟩ | ⟨f2, hf3, hf4, h8, hR2⟩⟩
        · refine r_step hk rfl rfl rfl ?_
          exact ih wB aB b1 w2 a2 idx2 ts2 ls2 (by omega) hwd1 g1 g2 g3 g4 g5 g6 g7 g8 (kfL_tr hfr hf2) (kR_tr hR hR2) hm2
        · have hfr2 := kfL_tr hfr hf2
          have h80 : ¬ w2 44 8 = 0 := by rw [h8]; exact nI_ne0 (by omega) (by omega)
          iterate 4 refine r_step hk rfl rfl rfl ?_
          refine r_ne (fun _ => ?_) (fun hq9 => absurd hq9 h80)
          iterate 3 refine r_step hk rfl rfl rfl ?_
          refine r_ne (fun _ => ?_) (fun hq9 => absurd hq9 h80)
          iterate 2 refine r_step hk rfl rfl rfl ?_
          refine r_iret hk rfl trivial ?_
          rw [h8]
          refine hQ _ _ ⟨w2, a2, b1, h, ?_, ?_, ?_, g7, ?_, ?_, ?_, hh2, Or.inr ⟨f2, hf3, hf4, kR_tr hR hR2, rfl, rfl, kTx_o hfr2 hh2 (by omega) (by omega) g8⟩, rfl⟩
          exact (fun j hj => (hfr2.1 j hj).trans (g1 j hj))
          exact (fun s hs => (hfr2.2.1 s (fun z => hs (by simp only [List.mem_cons, List.not_mem_nil, or_false] at z ⊢; omega))).trans (g2 s hs))
          exact gag_tr g6 (gag_sub hfr2.2.2.1 (by decide))
          exact (hfr2.2.1 0 (by decide)).trans g3
          exact (hfr2.2.1 2 (by decide)).trans g4
          exact (hfr2.2.1 15 (by decide)).trans g5
  have e16 : ∀ x : Int32, x = nI h → 1 - x = nI (1 - h) := by
    intro x hx
    subst hx
    exact pk_sub (a := 1) (b := h) (by omega)
  iterate 2 refine r_step hk rfl rfl rfl ?_
  refine r_putI hk rfl rfl rfl rfl ?_
  refine r_step hk rfl rfl rfl ?_
  refine r_callV hk [.ref 44] [] rfl rfl rfl rfl rfl rfl rfl (by omega) (m_cutAll (w := gTh w) (by omega) hl hl6 hf) ?_
  rintro _ _ ⟨rfl, a1, b1, hag1, hagb1, hT1, rfl⟩
  have e15 : upd2 (upd2 (upd2 (upd2 (gTh w) 44 3 (nI len)) 44 2 0) 44 7 0) 44 8 0 44 15 = nI h := hh
  iterate 5 refine r_step hk rfl rfl rfl ?_
  refine r_putI hk rfl rfl rfl rfl ?_
  iterate 5 refine r_step hk rfl rfl rfl ?_
  refine r_is hk (1 - h) rfl rfl rfl (by rw [upd2_same]; exact e16 _ e15) (by omega) rfl rfl ?_
  iterate 2 refine r_step hk rfl rfl rfl ?_
  refine r_putI hk rfl rfl rfl rfl ?_
  have hwB := e16 _ e15
  rw [hwB]
  have hb49 : b1 49 = b 49 := hagb1 49 (by decide)
  have htx : kTx a1 h ls0 := ⟨by rw [hag1 50 (by decide)]; exact ht0.1, ht0.2.1, kLn_cg ls0 0 0 (fun j _ _ => by rw [hag1 51 (by decide), hag1 52 (by decide)]; exact ⟨rfl, rfl⟩) (fun j _ _ => by rw [hag1 53 (by decide), hag1 54 (by decide)]; exact ⟨rfl, rfl⟩) ht0.2.2.1, ht0.2.2.2⟩
  refine loop 17 _ (upd2 a1 50 (1 - h) 0) b1 _ _ 0 (ktl f len 0) [] (by simp) (fun k hk => by rw [hb49]; exact hwd k hk) ?_ ?_ ?_ ?_ ?_ (gag_up (gag_sub hag1 (by decide)) (by decide)) hagb1 ?_ kfL_rf (kR_rf _) ⟨rfl, rfl, by omega, kTrs_row (a := a1) rfl rfl hT1, hpl, rfl, by omega, rfl, upd2_same _ _ _ _, trivial⟩
  exact (fun j hj => by simp [upd2, hj, gTh])
  exact (fun s hs => by simp only [List.mem_cons, List.not_mem_nil, or_false, not_or] at hs; simp [upd2, gTh, hs])
  rfl
  rfl
  exact e15
  exact kTx_o (w := w) (w1 := w) (kfL_n kfL_rf 0) hh2 (by omega) (by omega) htx
end GM17
