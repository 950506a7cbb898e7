-- deps: 37 38 39 43 44 45 50 51 59
/-! ===== the class: the scanner ===== -/
/-- the scanner's cells say a token and its end -/
def csc (w : Nat → Nat → Int32) (t : kTok) (e : Nat) : Prop := w 33 1 = nI t.1 ∧ w 33 2 = nI t.2.2 ∧ w 33 3 = nI e ∧ (t.1 = 300 → w 33 4 = nI t.2.1)
def cf33 (w w' : Nat → Nat → Int32) : Prop := ∀ j, j ≠ 33 → w' j = w j
theorem cf33_rf {w : Nat → Nat → Int32} : cf33 w w := fun _ _ => rfl
theorem cf33_up {w w1 : Nat → Nat → Int32} (h : cf33 w w1) (s : Nat) (v : Int32) : cf33 w (upd2 w1 33 s v) := fun j hj => by rw [upd2_row _ _ _ _ hj]; exact h j hj
def cTap (w a : Nat → Nat → Int32) (f : Nat → Nat) (len : Nat) : Prop := w 20 1 = nI len ∧ len ≤ 600 ∧ ∀ i, i < len → a 21 i = nI (f i) ∧ f i < 128
section GC10
variable {w a : Nat → Nat → Int32} {b : Nat → Nat → Int64} {r : Nat → Nat → Nat} {q : Nat → Nat → Option Nat} {y : gH} {n u : Nat} {d : Nat} {f : Nat → Nat} {len : Nat}
theorem cTap_w (h : cTap w a f len) {w' : Nat → Nat → Int32} (hw : w' 20 = w 20) : cTap w' a f len := ⟨by rw [hw]; exact h.1, h.2⟩
theorem c_isBlank {c : Nat} (hc : c < 1000) (S : gS) : gE d 20 [.int (nI c)] S (gbo (kbl c = true) S) := by
  have hk : gMT[20]? = some gro_20 := rfl
  refine r_in hk [some (.int (nI c))] (Nat.le_of_ble_eq_true rfl) rfl ?_
  have e1 : nI c = 10 ↔ c = 10 := nI_eq (b := 10) (by omega) (by omega)
  have e2 : nI c = 32 ↔ c = 32 := nI_eq (b := 32) (by omega) (by omega)
  unfold kbl
  iterate 3 refine r_step hk rfl rfl rfl ?_
  refine r_eq (fun h3 => ?_) (fun h3 => ?_)
  · iterate 2 refine r_step hk rfl rfl rfl ?_
    refine r_iret hk rfl (Or.inr rfl) ?_
    first | exact gbo_t (decide_eq_true (Or.inl (e1.mp h3))) | exact gbo_t (decide_eq_true (Or.inr (e2.mp h9))) | (refine gbo_f ?_; intro h; have h := of_decide_eq_true h; exact h.elim (mt e1.mpr h3) (mt e2.mpr h9))
  · iterate 3 refine r_step hk rfl rfl rfl ?_
    refine r_ne (fun h9 => ?_) (fun h9 => ?_)
    · refine r_step hk rfl rfl rfl ?_
      refine r_iret hk rfl (Or.inl rfl) ?_
      first | exact gbo_t (decide_eq_true (Or.inl (e1.mp h3))) | exact gbo_t (decide_eq_true (Or.inr (e2.mp h9))) | (refine gbo_f ?_; intro h; have h := of_decide_eq_true h; exact h.elim (mt e1.mpr h3) (mt e2.mpr h9))
    · iterate 2 refine r_step hk rfl rfl rfl ?_
      refine r_iret hk rfl (Or.inr rfl) ?_
      first | exact gbo_t (decide_eq_true (Or.inl (e1.mp h3))) | exact gbo_t (decide_eq_true (Or.inr (e2.mp h9))) | (refine gbo_f ?_; intro h; have h := of_decide_eq_true h; exact h.elim (mt e1.mpr h3) (mt e2.mpr h9))
theorem c_behindRun (P : Nat → Bool) {lo hi : Nat} (hP : ∀ c, P c = decide (lo ≤ c ∧ c ≤ hi)) (hlo : lo < 1000) (hhi : hi < 1000) (ht : cTap w a f len) {s : Nat} (hs : w 33 2 = nI s) (hsl : s ≤ len) : gE d 21 [.ref 33, .int (nI lo), .int (nI hi)] (n, u, HP w a b r q y) (gre (nI (kend P f len s)) (n, u, HP w a b r q y)) := by
  have hk : gMT[21]? = some gro_21 := rfl
  refine r_inQ hk [some (.ref 33), some (.int (nI lo)), some (.int (nI hi)), none] (Nat.le_of_ble_eq_true rfl) rfl ?_
  intro Q hQ
  obtain ⟨t1, t2, t3⟩ := ht
  have loop : ∀ (k p : Nat) (v : Int32), len - p = k → p ≤ len → v = nI p → kend P f len p = kend P f len s → gX d 21 5 [some (.ref 33), some (.int (nI lo)), some (.int (nI hi)), some (.int v)] [] (n, u, HP w a b r q y) Q := by
    intro k
    induction k with
    | zero =>
      intro p v hk0 hp hv he
      iterate 5 refine r_step hk rfl rfl rfl ?_
      refine r_ge (fun _ => ?_) (fun hq9 => absurd (show w 20 1 ≤ v by rw [hv, t1]; exact nI_le (by omega) (by omega)) hq9)
      refine r_step hk rfl rfl rfl ?_
      refine r_iret hk rfl trivial ?_
      exact hQ _ _ ⟨by rw [hv, ← he, kend_ge (by omega)], rfl⟩
    | succ k ih =>
      intro p v hk0 hp hv he
      obtain ⟨c1, c2⟩ := t3 p (by omega)
      have e1 : a 21 p < nI lo ↔ f p < lo := by rw [c1]; exact nI_ltI (by omega) (by omega)
      have e2 : nI hi < a 21 p ↔ hi < f p := by rw [c1]; exact nI_ltI (by omega) (by omega)
      have fin : ¬ P (f p) = true → kend P f len p = p := fun h => kend_f (by omega) h
      iterate 5 refine r_step hk rfl rfl rfl ?_
      refine r_ge (fun hq9 => absurd hq9 (show ¬ w 20 1 ≤ v by rw [hv, t1]; exact nI_ge (by omega) (by omega))) (fun _ => ?_)
      iterate 4 refine r_step hk rfl rfl rfl ?_
      refine r_ca hk (p) rfl rfl hv (by omega) rfl ?_
      iterate 2 refine r_step hk rfl rfl rfl ?_
      refine r_lt (fun h26 => ?_) (fun h26 => ?_)
      · refine r_step hk rfl rfl rfl ?_
        refine r_iret hk rfl trivial ?_
        refine hQ _ _ ⟨?_, rfl⟩
        rw [hv, ← he, fin (by rw [hP]; intro hc; have hc := of_decide_eq_true hc; first | (have := e1.mp h26; omega) | (have := e2.mp h39; omega))]
      · iterate 4 refine r_step hk rfl rfl rfl ?_
        refine r_ca hk (p) rfl rfl hv (by omega) rfl ?_
        iterate 2 refine r_step hk rfl rfl rfl ?_
        refine r_gt (fun h39 => ?_) (fun h39 => ?_)
        · refine r_step hk rfl rfl rfl ?_
          refine r_iret hk rfl trivial ?_
          refine hQ _ _ ⟨?_, rfl⟩
          rw [hv, ← he, fin (by rw [hP]; intro hc; have hc := of_decide_eq_true hc; first | (have := e1.mp h26; omega) | (have := e2.mp h39; omega))]
        · iterate 2 refine r_step hk rfl rfl rfl ?_
          refine ih (p + 1) _ (by omega) (by omega) (nI_s hv) ?_
          rw [← he]
          exact (kend_t (by omega) (by rw [hP]; exact decide_eq_true ⟨by have := mt e1.mpr h26; omega, by have := mt e2.mpr h39; omega⟩)).symm
  iterate 3 refine r_step hk rfl rfl rfl ?_
  exact loop (len - s) s _ rfl hsl hs rfl
theorem c_spells (hd : 10 ≤ d) (ht : cTap w a f len) {s e i : Nat} (hs : w 33 2 = nI s) (he : w 33 3 = nI e) (hse : s ≤ e) (hel : e ≤ len) (hi : i < 12) : gE d 23 [.ref 33, .int (nI i)] (n, u, HP w a b r q y) (gbo (kspell f s e i) (n, u, HP w a b r q y)) := by
  have hk : gMT[23]? = some gro_23 := rfl
  refine r_inQ hk [some (.ref 33), some (.int (nI i)), none, none] (Nat.le_of_ble_eq_true rfl) rfl ?_
  intro Q hQ
  obtain ⟨t1, t2, t3⟩ := ht
  have htx : ∀ k, k < 96 → gtx1.getD k 0 < 1000 := by decide +kernel
  have loop : ∀ j, j ≤ 8 → ∀ (v : Int32) (l3 : Option Value), v = nI j → (∀ j', j' < j → (if s + j' < e then f (s + j') else 32) = gtx1.getD (8 * i + j') 0) → gX d 23 2 [some (.ref 33), some (.int (nI i)), some (.int v), l3] [] (n, u, HP w a b r q y) Q := by
    refine g_down ?_ ?_
    · intro v l3 hv hall
      subst hv
      iterate 3 refine r_step hk rfl rfl rfl ?_
      refine r_ge (fun _ => ?_) (fun hq9 => absurd (by decide) hq9)
      refine r_step hk rfl rfl rfl ?_
      refine r_iret hk rfl (Or.inr rfl) ?_
      exact hQ _ _ (gbo_t hall)
    · intro j hj ih v l3 hv hall
      subst hv
      have h5 : ¬ (8 : Int32) ≤ nI j := nI_ge (b := 8) hj (by decide)
      have e13 : w 33 2 + nI j = nI (s + j) := by rw [hs, nI_add]
      have eix : nI i * 8 + nI j = nI (8 * i + j) := by rw [show (8 : Int32) = nI 8 from rfl, pk_mul, nI_add, Nat.mul_comm]
      have hx := htx (8 * i + j) (by omega)
      have tail : ∀ c, c < 1000 → (if s + j < e then f (s + j) else 32) = c → gX d 23 40 [some (.ref 33), some (.int (nI i)), some (.int (nI j)), l3] [.int (nI c)] (n, u, HP w a b r q y) Q := by
        intro c hc hcc
        have e53 : nI (gtx1.getD (8 * i + j) 0) = nI c ↔ gtx1.getD (8 * i + j) 0 = c := nI_eq (by omega) (by omega)
        iterate 7 refine r_step hk rfl rfl rfl ?_
        rw [eix]
        refine r_bi hk [.ref 2000000001, .int (nI (8 * i + j))] [] rfl rfl rfl rfl rfl (by decide) hd ⟨rfl, Or.inr (Or.inl ⟨rfl, 8 * i + j, by omega, rfl, rfl⟩)⟩ ?_
        iterate 2 refine r_step hk rfl rfl rfl ?_
        refine r_eq (fun h53 => ?_) (fun h53 => ?_)
        · iterate 2 refine r_step hk rfl rfl rfl ?_
          exact ih _ _ (nI_1 j) (fun j' hj' => by by_cases e9 : j' = j; (subst e9; rw [hcc]; exact (e53.mp h53).symm); exact hall j' (by omega))
        · refine r_step hk rfl rfl rfl ?_
          refine r_iret hk rfl (Or.inl rfl) ?_
          exact hQ _ _ (gbo_f (fun hsp => h53 (e53.mpr ((hsp j hj).symm.trans hcc))))
      by_cases hlt : s + j < e
      · obtain ⟨c1, c2⟩ := t3 (s + j) (by omega)
        iterate 3 refine r_step hk rfl rfl rfl ?_
        refine r_ge (fun hq9 => absurd hq9 h5) (fun _ => ?_)
        iterate 7 refine r_step hk rfl rfl rfl ?_
        refine r_ge (fun hq9 => absurd hq9 (show ¬ w 33 3 ≤ w 33 2 + nI j by rw [e13, he]; exact nI_ge hlt (by omega))) (fun _ => ?_)
        iterate 7 refine r_step hk rfl rfl rfl ?_
        refine r_ca hk (s + j) rfl rfl e13 (by omega) rfl ?_
        refine r_step hk rfl rfl rfl ?_
        rw [c1]
        exact tail (f (s + j)) (by omega) (if_pos hlt)
      · skip
        iterate 3 refine r_step hk rfl rfl rfl ?_
        refine r_ge (fun hq9 => absurd hq9 h5) (fun _ => ?_)
        iterate 7 refine r_step hk rfl rfl rfl ?_
        refine r_ge (fun _ => ?_) (fun hq9 => absurd (show w 33 3 ≤ w 33 2 + nI j by rw [e13, he]; exact nI_le (by omega) (by omega)) hq9)
        refine r_step hk rfl rfl rfl ?_
        exact tail 32 (by omega) (if_neg hlt)
  iterate 2 refine r_step hk rfl rfl rfl ?_
  exact loop 0 (Nat.zero_le _) _ _ rfl (fun j' hj' => absurd hj' (by omega))
theorem c_wordToken (hd : 11 ≤ d) (ht : cTap w a f len) {s e : Nat} (hs : w 33 2 = nI s) (he : w 33 3 = nI e) (hse : s ≤ e) (hel : e ≤ len) : gE d 22 [.ref 33] (n, u, HP w a b r q y) (gre (nI (kword f s e)) (n, u, HP w a b r q y)) := by
  have hk : gMT[22]? = some gro_22 := rfl
  refine r_inQ hk [some (.ref 33), none] (Nat.le_of_ble_eq_true rfl) rfl ?_
  intro Q hQ
  have h6 := ht.2.1
  have e8 : w 33 3 - w 33 2 = nI (e - s) := by rw [he, hs]; exact pk_sub hse
  have h11 : nI (e - s) ≤ 8 ↔ e - s ≤ 8 := nI_leI (b := 8) (by omega) (by omega)
  by_cases h8 : e - s ≤ 8
  · have loop : ∀ i, i ≤ 12 → ∀ v : Int32, v = nI i → kfw f s e (12 - i) = kfw f s e 12 → gX d 22 20 [some (.ref 33), some (.int v)] [] (n, u, HP w a b r q y) Q := by
      refine g_down ?_ ?_
      · intro v hv hk9
        subst hv
        iterate 3 refine r_step hk rfl rfl rfl ?_
        refine r_ge (fun _ => ?_) (fun hq9 => absurd (by decide) hq9)
        refine r_step hk rfl rfl rfl ?_
        refine r_iret hk rfl trivial ?_
        exact hQ _ _ ⟨by unfold kword; rw [if_neg (by omega), ← hk9]; rfl, rfl⟩
      · intro i hi ih v hv hk9
        subst hv
        have hu : kfw f s e (12 - i) = if kspell f s e i then 200 + i else kfw f s e (12 - (i + 1)) := by
          rw [show 12 - i = (12 - (i + 1)) + 1 by omega]
          simp only [kfw]
          rw [show 11 - (12 - (i + 1)) = i by omega]
        iterate 3 refine r_step hk rfl rfl rfl ?_
        refine r_ge (fun hq9 => absurd hq9 (show ¬ (12 : Int32) ≤ nI i from nI_ge (b := 12) hi (by decide))) (fun _ => ?_)
        iterate 2 refine r_step hk rfl rfl rfl ?_
        refine r_callV hk [.ref 33, .int (nI i)] [] rfl rfl rfl rfl rfl rfl rfl (by omega) (c_spells (by omega) ht hs he hse hel hi) ?_
        rintro _ _ ⟨⟨hsp, rfl⟩ | ⟨hsp, rfl⟩, rfl⟩
        · refine r_step hk rfl rfl rfl ?_
          refine r_eq (fun hq9 => absurd hq9 (by decide)) (fun _ => ?_)
          iterate 3 refine r_step hk rfl rfl rfl ?_
          refine r_iret hk rfl trivial ?_
          refine hQ _ _ ⟨?_, rfl⟩
          unfold kword
          rw [if_neg (by omega), ← hk9, hu, if_pos hsp]
          exact congrArg (fun z => some (Value.int z)) (nI_add 200 i)
        · refine r_step hk rfl rfl rfl ?_
          refine r_eq (fun _ => ?_) (fun hq9 => absurd (by decide) hq9)
          iterate 2 refine r_step hk rfl rfl rfl ?_
          exact ih _ (nI_1 i) (by rw [← hk9, hu, if_neg hsp])
    iterate 7 refine r_step hk rfl rfl rfl ?_
    refine r_le (fun _ => ?_) (fun hq9 => absurd (show w 33 3 - w 33 2 ≤ 8 by rw [e8]; exact h11.mpr h8) hq9)
    iterate 2 refine r_step hk rfl rfl rfl ?_
    exact loop 0 (Nat.zero_le _) _ rfl rfl
  · skip
    iterate 7 refine r_step hk rfl rfl rfl ?_
    refine r_le (fun hq9 => absurd hq9 (show ¬ w 33 3 - w 33 2 ≤ 8 by rw [e8]; exact mt h11.mp h8)) (fun _ => ?_)
    refine r_step hk rfl rfl rfl ?_
    refine r_iret hk rfl trivial ?_
    exact hQ _ _ ⟨by unfold kword; rw [if_pos (by omega)]; rfl, rfl⟩
theorem c_numberToken (ht : cTap w a f len) {s e : Nat} (hs : w 33 2 = nI s) (he : w 33 3 = nI e) (hse : s ≤ e) (hel : e ≤ len) (hdg : ∀ i, s ≤ i → i < e → kdg (f i) = true) : gE d 24 [.ref 33] (n, u, HP w a b r q y) (fun v S' => ∃ w', cf33 w w' ∧ (∀ k, k ≠ 4 → w' 33 k = w 33 k) ∧ v = some (.int (nI (if 4 < e - s then 302 else 300))) ∧ (¬ 4 < e - s → w' 33 4 = nI (knum f s (e - s))) ∧ S' = (n, u, HP w' a b r q y)) := by
  have hk : gMT[24]? = some gro_24 := rfl
  refine r_inQ hk [some (.ref 33), none] (Nat.le_of_ble_eq_true rfl) rfl ?_
  intro Q hQ
  have h6 := ht.2.1
  have e8 : w 33 3 - w 33 2 = nI (e - s) := by rw [he, hs]; exact pk_sub hse
  have h10 : nI (e - s) ≤ 4 ↔ e - s ≤ 4 := nI_leI (b := 4) (by omega) (by omega)
  by_cases h4 : e - s ≤ 4
  · have loop : ∀ k, k ≤ e - s → ∀ (w1 : Nat → Nat → Int32) (v : Int32), v = nI (s + k) → cf33 w w1 → (∀ k, k ≠ 4 → w1 33 k = w 33 k) → w1 33 4 = nI (knum f s k) → gX d 24 27 [some (.ref 33), some (.int v)] [] (n, u, HP w1 a b r q y) Q := by
      refine g_down ?_ ?_
      · intro w1 v hv hf hk9 hn
        have h3 : w1 33 3 = nI e := (hk9 3 (by decide)).trans he
        iterate 4 refine r_step hk rfl rfl rfl ?_
        refine r_ge (fun _ => ?_) (fun hq9 => absurd (show w1 33 3 ≤ v by rw [hv, h3]; exact nI_le (by omega) (by omega)) hq9)
        refine r_step hk rfl rfl rfl ?_
        refine r_iret hk rfl trivial ?_
        exact hQ _ _ ⟨w1, hf, hk9, by rw [if_neg (by omega)]; rfl, fun _ => hn, rfl⟩
      · intro k hk0 ih w1 v hv hf hk9 hn
        have h3 : w1 33 3 = nI e := (hk9 3 (by decide)).trans he
        obtain ⟨c1, c2⟩ := ht.2.2 (s + k) (by omega)
        have hdk := of_decide_eq_true (hdg (s + k) (by omega) (by omega))
        have enum : w1 33 4 * 10 + (a 21 (s + k) - 48) = nI (knum f s (k + 1)) := by
          rw [hn, c1, show nI (f (s + k)) - 48 = nI (f (s + k) - 48) from pk_sub (b := 48) (by omega), show (10 : Int32) = nI 10 from rfl, pk_mul, nI_add, Nat.mul_comm]
          rfl
        iterate 4 refine r_step hk rfl rfl rfl ?_
        refine r_ge (fun hq9 => absurd hq9 (show ¬ w1 33 3 ≤ v by rw [hv, h3]; exact nI_ge (by omega) (by omega))) (fun _ => ?_)
        iterate 9 refine r_step hk rfl rfl rfl ?_
        refine r_ca hk (s + k) rfl rfl hv (by omega) rfl ?_
        iterate 3 refine r_step hk rfl rfl rfl ?_
        refine r_putI hk rfl rfl rfl rfl ?_
        iterate 2 refine r_step hk rfl rfl rfl ?_
        rw [enum]
        exact ih _ _ (by rw [hv, nI_1, Nat.add_assoc]) (cf33_up hf _ _) (fun k' hk' => by rw [upd2_col _ _ _ _ hk']; exact hk9 k' hk') (upd2_same _ _ _ _)
    iterate 7 refine r_step hk rfl rfl rfl ?_
    refine r_le (fun _ => ?_) (fun hq9 => absurd (show w 33 3 - w 33 2 ≤ 4 by rw [e8]; exact h10.mpr h4) hq9)
    iterate 2 refine r_step hk rfl rfl rfl ?_
    refine r_putI hk rfl rfl rfl rfl ?_
    iterate 3 refine r_step hk rfl rfl rfl ?_
    exact loop 0 (Nat.zero_le _) _ _ hs (cf33_up cf33_rf _ _) (fun k' hk' => upd2_col _ _ _ _ hk') (upd2_same _ _ _ _)
  · skip
    iterate 7 refine r_step hk rfl rfl rfl ?_
    refine r_le (fun hq9 => absurd hq9 (show ¬ w 33 3 - w 33 2 ≤ 4 by rw [e8]; exact mt h10.mp h4)) (fun _ => ?_)
    refine r_step hk rfl rfl rfl ?_
    refine r_iret hk rfl trivial ?_
    exact hQ _ _ ⟨w, cf33_rf, fun _ _ => rfl, by rw [if_pos (by omega)]; rfl, fun h => absurd (by omega) h, rfl⟩
theorem gsgn_iff : ∀ c, c < 128 → (gsgn (nI c) < 0 ↔ ¬ ksg c = true) := by decide +kernel
theorem c_next (hd : 13 ≤ d) (ht : cTap w a f len) {p : Nat} (hp : w 33 3 = nI p) (hpl : p ≤ len) : gE d 19 [.ref 33] (n, u, HP w a b r q y) (fun v S' => v = none ∧ ∃ w', cf33 w w' ∧ csc w' (ktk f len p).1 (ktk f len p).2 ∧ S' = (n, u, HP w' a b r q y)) := by
  have hk : gMT[19]? = some gro_19 := rfl
  refine r_inQ hk [some (.ref 33), none] (Nat.le_of_ble_eq_true rfl) rfl ?_
  intro Q hQ
  have ht0 := ht
  obtain ⟨t1, t2, t3⟩ := ht
  obtain ⟨b1, b2, b3, b4⟩ := kend_b (P := kbl) (f := f) (len := len) (len - p) p rfl hpl
  -- behind the blanks
  have tail : ∀ (w1 : Nat → Nat → Int32) (s : Nat), s = kend kbl f len p → cf33 w w1 → w1 33 2 = nI s → gX d 19 53 [some (.ref 33), none] [] (n, u, HP w1 a b r q y) Q := by
    intro w1 s hs hf h2
    have h20 : ∀ w2 : Nat → Nat → Int32, cf33 w w2 → w2 20 1 = nI len := fun w2 hf2 => by rw [hf2 20 (by decide)]; exact t1
    have hf2 : cf33 w (upd2 w1 33 3 (w1 33 2)) := cf33_up hf _ _
    by_cases hend : len ≤ s
    · have hkt : ktk f len p = ((301, 0, len), len) := ktk_end (by omega)
      have hsl : s = len := by omega
      iterate 3 refine r_step hk rfl rfl rfl ?_
      refine r_putI hk rfl rfl rfl rfl ?_
      iterate 6 refine r_step hk rfl rfl rfl ?_
      refine r_lt (fun hq9 => absurd hq9 (show ¬ w1 33 2 < w1 20 1 by rw [h2, h20 w1 hf]; exact fun z => by have := (nI_ltI (by omega) (by omega)).mp z; omega)) (fun _ => ?_)
      iterate 2 refine r_step hk rfl rfl rfl ?_
      refine r_putI hk rfl rfl rfl rfl ?_
      refine r_ret hk rfl rfl ?_
      refine hQ _ _ ⟨rfl, _, cf33_up hf2 _ _, ?_, rfl⟩
      rw [hkt]
      exact ⟨upd2_same _ _ _ _, by show w1 33 2 = _; rw [h2, hsl], by show w1 33 2 = _; rw [h2, hsl], fun z => absurd (show (301 : Nat) = 300 from z) (by decide)⟩
    · obtain ⟨c1, c2⟩ := t3 s (by omega)
      have hne : ¬ len ≤ kend kbl f len p := by omega
      have h72 : w1 33 2 < w1 20 1 := by rw [h2, h20 w1 hf]; exact nI_lt (by omega) (by omega)
      have k97 : a 21 s < 97 ↔ f s < 97 := by rw [c1]; exact nI_ltI (b := 97) (by omega) (by omega)
      have k122 : 122 < a 21 s ↔ 122 < f s := by rw [c1]; exact nI_ltI (a := 122) (by omega) (by omega)
      have k48 : a 21 s < 48 ↔ f s < 48 := by rw [c1]; exact nI_ltI (b := 48) (by omega) (by omega)
      have k57 : 57 < a 21 s ↔ 57 < f s := by rw [c1]; exact nI_ltI (a := 57) (by omega) (by omega)
      generalize hw2 : upd2 w1 33 3 (w1 33 2) = w2 at hf2
      have g2 : w2 33 2 = nI s := by rw [← hw2]; exact h2
      have htp2 : cTap w2 a f len := cTap_w ht0 (hf2 20 (by decide))
      by_cases hl : klt (f s) = true
      · have hl2 := of_decide_eq_true hl
        have hkt : ktk f len p = ((kword f s (kend klt f len s), 0, s), kend klt f len s) := by
          unfold ktk; rw [← hs, if_neg (by omega), if_pos hl]
        obtain ⟨d1, d2, d3, d4⟩ := kend_b (P := klt) (f := f) (len := len) (len - s) s rfl (by omega)
        iterate 3 refine r_step hk rfl rfl rfl ?_
        refine r_putI hk rfl rfl rfl rfl ?_
        iterate 6 refine r_step hk rfl rfl rfl ?_
        refine r_lt (fun _ => ?_) (fun hq9 => absurd h72 hq9)
        iterate 5 refine r_step hk rfl rfl rfl ?_
        rw [hw2]
        refine r_ca hk s rfl rfl g2 (by omega) rfl ?_
        iterate 4 refine r_step hk rfl rfl rfl ?_
        refine r_lt (fun hq9 => absurd hq9 (fun z => by have := k97.mp z; omega)) (fun _ => ?_)
        iterate 3 refine r_step hk rfl rfl rfl ?_
        refine r_gt (fun hq9 => absurd hq9 (fun z => by have := k122.mp z; omega)) (fun _ => ?_)
        iterate 4 refine r_step hk rfl rfl rfl ?_
        refine r_callV hk [.ref 33, .int 97, .int 122] [.ref 33] rfl rfl rfl rfl rfl rfl rfl (by omega) (c_behindRun klt (lo := 97) (hi := 122) (fun c => rfl) (by decide) (by decide) htp2 g2 (by omega)) ?_
        rintro _ _ ⟨rfl, rfl⟩
        refine r_putI hk rfl rfl rfl rfl ?_
        iterate 2 refine r_step hk rfl rfl rfl ?_
        refine r_callV hk [.ref 33] [.ref 33] rfl rfl rfl rfl rfl rfl rfl (by omega) (c_wordToken (s := s) (e := kend klt f len s) (by omega) (cTap_w ht0 ((upd2_row _ _ _ _ (by decide)).trans (hf2 20 (by decide)))) (by rw [upd2_col _ _ _ _ (by decide)]; exact g2) (upd2_same _ _ _ _) d1 d2) ?_
        rintro _ _ ⟨rfl, rfl⟩
        refine r_putI hk rfl rfl rfl rfl ?_
        refine r_step hk rfl rfl rfl ?_
        refine r_ret hk rfl rfl ?_
        refine hQ _ _ ⟨rfl, _, cf33_up (cf33_up hf2 _ _) _ _, ?_, rfl⟩
        rw [hkt]
        refine ⟨upd2_same _ _ _ _, ?_, ?_, fun z => ?_⟩
        (rw [upd2_col _ _ _ _ (by decide), upd2_col _ _ _ _ (by decide)]; exact g2)
        (rw [upd2_col _ _ _ _ (by decide), upd2_same])
        (have := kword_r f s (kend klt f len s); simp only at z; omega)
      · have hl2 : ¬ (97 ≤ f s ∧ f s ≤ 122) := fun z => hl (decide_eq_true z)
        by_cases hg : kdg (f s) = true
        · have hg2 := of_decide_eq_true hg
          have hkt : ktk f len p = ((if 4 < kend kdg f len s - s then 302 else 300, (if 4 < kend kdg f len s - s then 0 else knum f s (kend kdg f len s - s)), s), kend kdg f len s) := by
            unfold ktk; rw [← hs, if_neg (by omega), if_neg hl, if_pos hg]
          obtain ⟨d1, d2, d3, d4⟩ := kend_b (P := kdg) (f := f) (len := len) (len - s) s rfl (by omega)
          iterate 3 refine r_step hk rfl rfl rfl ?_
          refine r_putI hk rfl rfl rfl rfl ?_
          iterate 6 refine r_step hk rfl rfl rfl ?_
          refine r_lt (fun _ => ?_) (fun hq9 => absurd h72 hq9)
          iterate 5 refine r_step hk rfl rfl rfl ?_
          rw [hw2]
          refine r_ca hk s rfl rfl g2 (by omega) rfl ?_
          iterate 4 refine r_step hk rfl rfl rfl ?_
          refine r_lt (fun _ => ?_) (fun hq9 => absurd (k97.mpr (by omega)) hq9)
          iterate 3 refine r_step hk rfl rfl rfl ?_
          refine r_lt (fun hq9 => absurd hq9 (fun z => by have := k48.mp z; omega)) (fun _ => ?_)
          iterate 3 refine r_step hk rfl rfl rfl ?_
          refine r_gt (fun hq9 => absurd hq9 (fun z => by have := k57.mp z; omega)) (fun _ => ?_)
          iterate 4 refine r_step hk rfl rfl rfl ?_
          refine r_callV hk [.ref 33, .int 48, .int 57] [.ref 33] rfl rfl rfl rfl rfl rfl rfl (by omega) (c_behindRun kdg (lo := 48) (hi := 57) (fun c => rfl) (by decide) (by decide) htp2 g2 (by omega)) ?_
          rintro _ _ ⟨rfl, rfl⟩
          refine r_putI hk rfl rfl rfl rfl ?_
          iterate 2 refine r_step hk rfl rfl rfl ?_
          refine r_callV hk [.ref 33] [.ref 33] rfl rfl rfl rfl rfl rfl rfl (by omega) (c_numberToken (s := s) (e := kend kdg f len s) (cTap_w ht0 ((upd2_row _ _ _ _ (by decide)).trans (hf2 20 (by decide)))) (by rw [upd2_col _ _ _ _ (by decide)]; exact g2) (upd2_same _ _ _ _) d1 d2 d3) ?_
          rintro _ _ ⟨w3, hf3, h3k, rfl, h34, rfl⟩
          refine r_putI hk rfl rfl rfl rfl ?_
          refine r_step hk rfl rfl rfl ?_
          refine r_ret hk rfl rfl ?_
          refine hQ _ _ ⟨rfl, _, cf33_up (fun j hj => (hf3 j hj).trans ((cf33_up hf2 _ _) j hj)) _ _, ?_, rfl⟩
          rw [hkt]
          refine ⟨upd2_same _ _ _ _, ?_, ?_, fun z => ?_⟩
          (rw [upd2_col _ _ _ _ (by decide), h3k 2 (by decide), upd2_col _ _ _ _ (by decide)]; exact g2)
          (rw [upd2_col _ _ _ _ (by decide), h3k 3 (by decide), upd2_same])
          (have hn4 : ¬ 4 < kend kdg f len s - s := fun z4 => by simp only [if_pos z4] at z; omega)
          rw [upd2_col _ _ _ _ (by decide), h34 hn4]
          show _ = nI (if 4 < kend kdg f len s - s then 0 else knum f s (kend kdg f len s - s))
          rw [if_neg hn4]
        · have hg2 : ¬ (48 ≤ f s ∧ f s ≤ 57) := fun z => hg (decide_eq_true z)
          have hkt : ktk f len p = ((if ksg (f s) = true then f s else 302, 0, s), s + 1) := by
            unfold ktk; rw [← hs, if_neg (by omega), if_neg hl, if_neg hg]
          have g3 : w2 33 3 = nI s := by rw [← hw2, upd2_same]; exact h2
          have e3 : w2 33 3 + 1 = nI (s + 1) := by rw [g3]; exact nI_1 s
          have hsg := gsgn_iff (f s) c2
          have hsr : ksg (f s) = true → f s ≠ 300 := fun h => by have := of_decide_eq_true h; omega
          have fin : gX d 19 166 [some (.ref 33), some (.int (a 21 s))] [] (n, u, HP w2 a b r q y) Q := by
            iterate 5 refine r_step hk rfl rfl rfl ?_
            refine r_putI hk rfl rfl rfl rfl ?_
            iterate 3 refine r_step hk rfl rfl rfl ?_
            rw [c1]
            refine r_bi hk [.ref 2000000002, .int (nI (f s))] [.ref 33] rfl rfl rfl rfl rfl (by decide) (by omega) ⟨rfl, Or.inr (Or.inr (Or.inl ⟨rfl, f s, by omega, rfl, rfl⟩))⟩ ?_
            refine r_step hk rfl rfl rfl ?_
            refine r_lt (fun h183 => ?_) (fun h183 => ?_)
            · refine r_step hk rfl rfl rfl ?_
              refine r_putI hk rfl rfl rfl rfl ?_
              refine r_ret hk rfl rfl ?_
              refine hQ _ _ ⟨rfl, _, cf33_up (cf33_up hf2 _ _) _ _, ?_, rfl⟩
              rw [hkt]
              refine ⟨?_, ?_, ?_, ?_⟩
              (rw [upd2_same]; first | (rw [if_neg (hsg.mp h183)]; rfl) | rw [if_pos (Decidable.of_not_not (mt hsg.mpr h183))])
              (rw [upd2_col _ _ _ _ (by decide), upd2_col _ _ _ _ (by decide)]; exact g2)
              (rw [upd2_col _ _ _ _ (by decide), upd2_same]; exact e3)
              (intro z; simp only at z; split at z; exact absurd z (hsr (by assumption)); omega)
            · iterate 2 refine r_step hk rfl rfl rfl ?_
              refine r_putI hk rfl rfl rfl rfl ?_
              refine r_ret hk rfl rfl ?_
              refine hQ _ _ ⟨rfl, _, cf33_up (cf33_up hf2 _ _) _ _, ?_, rfl⟩
              rw [hkt]
              refine ⟨?_, ?_, ?_, ?_⟩
              (rw [upd2_same]; first | (rw [if_neg (hsg.mp h183)]; rfl) | rw [if_pos (Decidable.of_not_not (mt hsg.mpr h183))])
              (rw [upd2_col _ _ _ _ (by decide), upd2_col _ _ _ _ (by decide)]; exact g2)
              (rw [upd2_col _ _ _ _ (by decide), upd2_same]; exact e3)
              (intro z; simp only at z; split at z; exact absurd z (hsr (by assumption)); omega)
          iterate 3 refine r_step hk rfl rfl rfl ?_
          refine r_putI hk rfl rfl rfl rfl ?_
          iterate 6 refine r_step hk rfl rfl rfl ?_
          refine r_lt (fun _ => ?_) (fun hq9 => absurd h72 hq9)
          iterate 5 refine r_step hk rfl rfl rfl ?_
          rw [hw2]
          refine r_ca hk s rfl rfl g2 (by omega) rfl ?_
          iterate 4 refine r_step hk rfl rfl rfl ?_
          refine r_lt (fun h99 => ?_) (fun h99 => ?_)
          · iterate 3 refine r_step hk rfl rfl rfl ?_
            refine r_lt (fun h134 => ?_) (fun h134 => ?_)
            · exact fin
            · iterate 3 refine r_step hk rfl rfl rfl ?_
              refine r_gt (fun h140 => ?_) (fun h140 => ?_)
              · exact fin
              · exact absurd ⟨by have := mt k48.mpr h134; omega, by have := mt k57.mpr h140; omega⟩ hg2
          · iterate 3 refine r_step hk rfl rfl rfl ?_
            refine r_gt (fun h105 => ?_) (fun h105 => ?_)
            · iterate 3 refine r_step hk rfl rfl rfl ?_
              refine r_lt (fun h134 => ?_) (fun h134 => ?_)
              · exact fin
              · iterate 3 refine r_step hk rfl rfl rfl ?_
                refine r_gt (fun h140 => ?_) (fun h140 => ?_)
                · exact fin
                · exact absurd ⟨by have := mt k48.mpr h134; omega, by have := mt k57.mpr h140; omega⟩ hg2
            · exact absurd ⟨by have := mt k97.mpr h99; omega, by have := mt k122.mpr h105; omega⟩ hl2
  have loop : ∀ (k s : Nat) (w1 : Nat → Nat → Int32), len - s = k → s ≤ len → cf33 w w1 → w1 33 2 = nI s → kend kbl f len s = kend kbl f len p → gX d 19 8 [some (.ref 33), none] [] (n, u, HP w1 a b r q y) Q := by
    intro k
    induction k with
    | zero =>
      intro s w1 hk0 hs hf h2 he
      have h20 : w1 20 1 = nI len := by rw [hf 20 (by decide)]; exact t1
      iterate 6 refine r_step hk rfl rfl rfl ?_
      refine r_ge (fun _ => ?_) (fun hq9 => absurd (show w1 20 1 ≤ w1 33 2 by rw [h2, h20]; exact nI_le (by omega) (by omega)) hq9)
      exact tail w1 s (by rw [← he, kend_ge (by omega)]) hf h2
    | succ k ih =>
      intro s w1 hk0 hs hf h2 he
      have h20 : w1 20 1 = nI len := by rw [hf 20 (by decide)]; exact t1
      obtain ⟨c1, c2⟩ := t3 s (by omega)
      iterate 6 refine r_step hk rfl rfl rfl ?_
      refine r_ge (fun hq9 => absurd hq9 (show ¬ w1 20 1 ≤ w1 33 2 by rw [h2, h20]; exact nI_ge (by omega) (by omega))) (fun _ => ?_)
      iterate 5 refine r_step hk rfl rfl rfl ?_
      refine r_ca hk (s) rfl rfl h2 (by omega) rfl ?_
      refine r_callS hk [.int (a 21 s)] [] rfl rfl rfl rfl rfl (by omega) (by rw [c1]; exact c_isBlank (by omega) _) ?_
      rintro _ _ ⟨⟨hbl, rfl⟩ | ⟨hbl, rfl⟩, rfl⟩
      · refine r_step hk rfl rfl rfl ?_
        refine r_eq (fun hq9 => absurd hq9 (by decide)) (fun _ => ?_)
        iterate 5 refine r_step hk rfl rfl rfl ?_
        refine r_putI hk rfl rfl rfl rfl ?_
        refine r_step hk rfl rfl rfl ?_
        rw [show w1 33 2 + 1 = nI (s + 1) by rw [h2]; exact nI_1 s]
        exact ih (s + 1) _ (by omega) (by omega) (cf33_up hf _ _) (upd2_same _ _ _ _) (by rw [← he]; exact (kend_t (by omega) hbl).symm)
      · refine r_step hk rfl rfl rfl ?_
        refine r_eq (fun _ => ?_) (fun hq9 => absurd (by decide) hq9)
        exact tail w1 s (by rw [← he, kend_f (by omega) hbl]) hf h2
  iterate 3 refine r_step hk rfl rfl rfl ?_
  refine r_putI hk rfl rfl rfl rfl ?_
  exact loop (len - p) p _ rfl hpl (cf33_up cf33_rf _ _) (by rw [upd2_same]; exact hp) rfl
end GC10
