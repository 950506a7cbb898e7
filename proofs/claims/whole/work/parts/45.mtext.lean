-- deps: 37 38 39 43 44
/-! ===== the reference: feed, and cutting the tape ===== -/
def kby (v : Int64) (k : Nat) : Int32 := (v >>> ((nI k).toInt64 &&& 63)).toInt32 &&& 255
def kput (st : Nat × (Nat → Int32)) (c : Int32) : Nat × (Nat → Int32) := if (c = 10 ∨ (¬ c < 32 ∧ ¬ 126 < c)) ∧ st.1 < 600 then (st.1 + 1, gu st.2 st.1 c) else st
def klay (v : Int64) : Nat → Nat × (Nat → Int32) → Nat × (Nat → Int32)
  | 0, st => st
  | j + 1, st => klay v j (kput st (kby v (8 * j)))
theorem kput_le {st : Nat × (Nat → Int32)} {c : Int32} (h : st.1 ≤ 600) : (kput st c).1 ≤ 600 := by
  unfold kput
  split
  · rename_i hc; simp only; omega
  · exact h
theorem klay_le (v : Int64) : ∀ (j : Nat) (st : Nat × (Nat → Int32)), st.1 ≤ 600 → (klay v j st).1 ≤ 600 := by
  intro j
  induction j with
  | zero => intro st h; exact h
  | succ j ih => intro st h; exact ih _ (kput_le h)
theorem kdec (j : Nat) : nI (8 * (j + 1)) + -8 = nI (8 * j) := by
  rw [show 8 * (j + 1) = 8 * j + 8 by omega, ← nI_add, Int32.add_assoc]
  show nI (8 * j) + 0 = _
  exact Int32.add_zero _
section GM13
variable {w a : Nat → Nat → Int32} {b : Nat → Nat → Int64} {r : Nat → Nat → Nat} {q : Nat → Nat → Option Nat} {y : gH} {n u : Nat} {d : Nat}
theorem m_lay {len : Nat} (hl : w 44 2 = nI len) (hl6 : len ≤ 600) (v : Int64) : gE d 94 [.ref 44, .long v] (n, u, HP w a b r q y) (fun v' S' => v' = none ∧ ∃ a', gag [45] a a' ∧ a' 45 = (klay v 8 (len, a 45)).2 ∧ S' = (n, u, HP (upd2 w 44 2 (nI (klay v 8 (len, a 45)).1)) a' b r q y)) := by
  have hk : gMT[94]? = some gro_94 := rfl
  refine r_inQ hk [some (.ref 44), some (.long v), none, none, none] (Nat.le_of_ble_eq_true rfl) rfl ?_
  intro Q hQ
  have loop : ∀ (j : Nat), j ≤ 8 → ∀ (len1 : Nat) (a1 : Nat → Nat → Int32) (z : Int32) (l4 : Option Value), z = nI (8 * j) + -8 → len1 ≤ 600 → gag [45] a a1 → klay v j (len1, a1 45) = klay v 8 (len, a 45) → gX d 94 3 [some (.ref 44), some (.long v), none, some (.int z), l4] [] (n, u, HP (upd2 w 44 2 (nI len1)) a1 b r q y) Q := by
    intro j
    induction j with
    | zero =>
      intro _ len1 a1 z l4 hz h6 hag hk8
      subst hz
      iterate 2 refine r_step hk rfl rfl rfl ?_
      refine r_lt (fun _ => ?_) (fun hq9 => absurd (show nI (8 * 0) + -8 < 0 by decide) hq9)
      refine r_ret hk rfl rfl ?_
      refine hQ _ _ ⟨rfl, a1, hag, ?_, ?_⟩
      (rw [← hk8]; rfl)
      rw [← hk8]; rfl
    | succ j ih =>
      intro hj len1 a1 z l4 hz h6 hag hk8
      rw [kdec] at hz
      subst hz
      have h4 : ¬ nI (8 * j) < 0 := nI_pos (by omega)
      have hnx : ∀ (len2 : Nat) (a2 : Nat → Nat → Int32) (l4 : Option Value), len2 ≤ 600 → gag [45] a a2 → kput (len1, a1 45) (kby v (8 * j)) = (len2, a2 45) → gX d 94 3 [some (.ref 44), some (.long v), none, some (.int (nI (8 * j) + -8)), l4] [] (n, u, HP (upd2 w 44 2 (nI len2)) a2 b r q y) Q := by
        intro len2 a2 l4 h62 hag2 hp
        refine ih (by omega) len2 a2 _ _ rfl h62 hag2 ?_
        rw [← hk8, ← hp]; rfl
      have h600 : (600 : Int32) ≤ upd2 w 44 2 (nI len1) 44 2 ↔ ¬ len1 < 600 := by
        rw [upd2_same, show (600 : Int32) = nI 600 from rfl, nI_leI (by omega) (by omega)]; omega
      have hno : ¬ ((kby v (8 * j) = 10 ∨ (¬ kby v (8 * j) < 32 ∧ ¬ 126 < kby v (8 * j))) ∧ len1 < 600) → kput (len1, a1 45) (kby v (8 * j)) = (len1, a1 45) := fun h => if_neg h
      have hyes : ((kby v (8 * j) = 10 ∨ (¬ kby v (8 * j) < 32 ∧ ¬ 126 < kby v (8 * j))) ∧ len1 < 600) → kput (len1, a1 45) (kby v (8 * j)) = (len1 + 1, upd2 a1 45 len1 (kby v (8 * j)) 45) := by
        intro h
        rw [gu_row]
        exact if_pos h
      iterate 2 refine r_step hk rfl rfl rfl ?_
      refine r_lt (fun hq9 => absurd hq9 h4) (fun _ => ?_)
      iterate 10 refine r_step hk rfl rfl rfl ?_
      refine r_eq (fun h21 => ?_) (fun h21 => ?_)
      · iterate 4 refine r_step hk rfl rfl rfl ?_
        refine r_ge (fun h45 => ?_) (fun h45 => ?_)
        · iterate 2 refine r_step hk rfl rfl rfl ?_
          first | exact hnx len1 a1 _ h6 hag (hno (fun hc => hc.1.elim h21 (fun z => z.1 h28))) | exact hnx len1 a1 _ h6 hag (hno (fun hc => hc.1.elim h21 (fun z => z.2 h35))) | exact hnx len1 a1 _ h6 hag (hno (fun hc => h600.mp h45 hc.2)) | (rw [upd2_2, show upd2 w 44 2 (nI len1) 44 2 + 1 = nI (len1 + 1) by rw [upd2_same]; exact nI_1 _]; exact hnx (len1 + 1) _ _ (by have := mt h600.mpr h45; omega) (gag_up hag (by decide)) (hyes ⟨by first | exact Or.inl h21 | exact Or.inr ⟨h28, h35⟩, by have := mt h600.mpr h45; omega⟩))
        · iterate 5 refine r_step hk rfl rfl rfl ?_
          refine r_is hk (len1) rfl rfl rfl (show upd2 w 44 2 (nI len1) 44 2 = nI len1 from upd2_same _ _ _ _) (by have := mt h600.mpr h45; omega) rfl rfl ?_
          iterate 5 refine r_step hk rfl rfl rfl ?_
          refine r_putI hk rfl rfl rfl rfl ?_
          iterate 2 refine r_step hk rfl rfl rfl ?_
          first | exact hnx len1 a1 _ h6 hag (hno (fun hc => hc.1.elim h21 (fun z => z.1 h28))) | exact hnx len1 a1 _ h6 hag (hno (fun hc => hc.1.elim h21 (fun z => z.2 h35))) | exact hnx len1 a1 _ h6 hag (hno (fun hc => h600.mp h45 hc.2)) | (rw [upd2_2, show upd2 w 44 2 (nI len1) 44 2 + 1 = nI (len1 + 1) by rw [upd2_same]; exact nI_1 _]; exact hnx (len1 + 1) _ _ (by have := mt h600.mpr h45; omega) (gag_up hag (by decide)) (hyes ⟨by first | exact Or.inl h21 | exact Or.inr ⟨h28, h35⟩, by have := mt h600.mpr h45; omega⟩))
      · iterate 3 refine r_step hk rfl rfl rfl ?_
        refine r_lt (fun h28 => ?_) (fun h28 => ?_)
        · iterate 2 refine r_step hk rfl rfl rfl ?_
          first | exact hnx len1 a1 _ h6 hag (hno (fun hc => hc.1.elim h21 (fun z => z.1 h28))) | exact hnx len1 a1 _ h6 hag (hno (fun hc => hc.1.elim h21 (fun z => z.2 h35))) | exact hnx len1 a1 _ h6 hag (hno (fun hc => h600.mp h45 hc.2)) | (rw [upd2_2, show upd2 w 44 2 (nI len1) 44 2 + 1 = nI (len1 + 1) by rw [upd2_same]; exact nI_1 _]; exact hnx (len1 + 1) _ _ (by have := mt h600.mpr h45; omega) (gag_up hag (by decide)) (hyes ⟨by first | exact Or.inl h21 | exact Or.inr ⟨h28, h35⟩, by have := mt h600.mpr h45; omega⟩))
        · iterate 3 refine r_step hk rfl rfl rfl ?_
          refine r_gt (fun h35 => ?_) (fun h35 => ?_)
          · iterate 2 refine r_step hk rfl rfl rfl ?_
            first | exact hnx len1 a1 _ h6 hag (hno (fun hc => hc.1.elim h21 (fun z => z.1 h28))) | exact hnx len1 a1 _ h6 hag (hno (fun hc => hc.1.elim h21 (fun z => z.2 h35))) | exact hnx len1 a1 _ h6 hag (hno (fun hc => h600.mp h45 hc.2)) | (rw [upd2_2, show upd2 w 44 2 (nI len1) 44 2 + 1 = nI (len1 + 1) by rw [upd2_same]; exact nI_1 _]; exact hnx (len1 + 1) _ _ (by have := mt h600.mpr h45; omega) (gag_up hag (by decide)) (hyes ⟨by first | exact Or.inl h21 | exact Or.inr ⟨h28, h35⟩, by have := mt h600.mpr h45; omega⟩))
          · iterate 4 refine r_step hk rfl rfl rfl ?_
            refine r_ge (fun h45 => ?_) (fun h45 => ?_)
            · iterate 2 refine r_step hk rfl rfl rfl ?_
              first | exact hnx len1 a1 _ h6 hag (hno (fun hc => hc.1.elim h21 (fun z => z.1 h28))) | exact hnx len1 a1 _ h6 hag (hno (fun hc => hc.1.elim h21 (fun z => z.2 h35))) | exact hnx len1 a1 _ h6 hag (hno (fun hc => h600.mp h45 hc.2)) | (rw [upd2_2, show upd2 w 44 2 (nI len1) 44 2 + 1 = nI (len1 + 1) by rw [upd2_same]; exact nI_1 _]; exact hnx (len1 + 1) _ _ (by have := mt h600.mpr h45; omega) (gag_up hag (by decide)) (hyes ⟨by first | exact Or.inl h21 | exact Or.inr ⟨h28, h35⟩, by have := mt h600.mpr h45; omega⟩))
            · iterate 5 refine r_step hk rfl rfl rfl ?_
              refine r_is hk (len1) rfl rfl rfl (show upd2 w 44 2 (nI len1) 44 2 = nI len1 from upd2_same _ _ _ _) (by have := mt h600.mpr h45; omega) rfl rfl ?_
              iterate 5 refine r_step hk rfl rfl rfl ?_
              refine r_putI hk rfl rfl rfl rfl ?_
              iterate 2 refine r_step hk rfl rfl rfl ?_
              first | exact hnx len1 a1 _ h6 hag (hno (fun hc => hc.1.elim h21 (fun z => z.1 h28))) | exact hnx len1 a1 _ h6 hag (hno (fun hc => hc.1.elim h21 (fun z => z.2 h35))) | exact hnx len1 a1 _ h6 hag (hno (fun hc => h600.mp h45 hc.2)) | (rw [upd2_2, show upd2 w 44 2 (nI len1) 44 2 + 1 = nI (len1 + 1) by rw [upd2_same]; exact nI_1 _]; exact hnx (len1 + 1) _ _ (by have := mt h600.mpr h45; omega) (gag_up hag (by decide)) (hyes ⟨by first | exact Or.inl h21 | exact Or.inr ⟨h28, h35⟩, by have := mt h600.mpr h45; omega⟩))
  iterate 2 refine r_step hk rfl rfl rfl ?_
  have hl0 := loop 8 (Nat.le_refl _) len a _ none rfl hl6 gag_rf rfl
  rw [upd2_id hl] at hl0
  exact hl0
def kfeed (v1 v2 v3 : Int64) (st : Nat × (Nat → Int32)) : Nat × (Nat → Int32) := klay v3 8 (klay v2 8 (klay v1 8 st))
theorem m_feed (hd : 1 ≤ d) {len : Nat} (hl : w 44 2 = nI len) (hl6 : len ≤ 600) (v1 v2 v3 : Int64) : gE d 93 [.ref 44, .long v1, .long v2, .long v3] (n, u, HP w a b r q y) (fun v' S' => v' = some (.int (nI (kfeed v1 v2 v3 (len, a 45)).1)) ∧ ∃ a', gag [45] a a' ∧ a' 45 = (kfeed v1 v2 v3 (len, a 45)).2 ∧ S' = (n, u, HP (upd2 (gTh w) 44 2 (nI (kfeed v1 v2 v3 (len, a 45)).1)) a' b r q y)) := by
  have hk : gMT[93]? = some gro_93 := rfl
  refine r_inQ hk [some (.ref 44), some (.long v1), none, some (.long v2), none, some (.long v3), none] (Nat.le_of_ble_eq_true rfl) rfl ?_
  intro Q hQ
  have e1 := klay_le v1 8 (len, a 45) hl6
  generalize hs1 : klay v1 8 (len, a 45) = s1 at e1
  have e2 := klay_le v2 8 s1 e1
  generalize hs2 : klay v2 8 s1 = s2 at e2
  iterate 2 refine r_step hk rfl rfl rfl ?_
  refine r_putI hk rfl rfl rfl rfl ?_
  iterate 2 refine r_step hk rfl rfl rfl ?_
  refine r_callV hk [.ref 44, .long v1] [] rfl rfl rfl rfl rfl rfl rfl hd (m_lay (w := gTh w) hl hl6 v1) ?_
  rw [hs1]
  rintro _ _ ⟨rfl, a1, hag1, h45, rfl⟩
  have q1 : klay v2 8 (s1.1, a1 45) = s2 := by rw [h45, ← hs2]
  iterate 2 refine r_step hk rfl rfl rfl ?_
  refine r_callV hk [.ref 44, .long v2] [] rfl rfl rfl rfl rfl rfl rfl hd (m_lay (w := upd2 (gTh w) 44 2 (nI s1.1)) (upd2_same _ _ _ _) e1 v2) ?_
  rw [q1, upd2_2]
  rintro _ _ ⟨rfl, a2, hag2, h452, rfl⟩
  have q2 : klay v3 8 (s2.1, a2 45) = kfeed v1 v2 v3 (len, a 45) := by rw [h452]; unfold kfeed; rw [hs1, hs2]
  iterate 2 refine r_step hk rfl rfl rfl ?_
  refine r_callV hk [.ref 44, .long v3] [] rfl rfl rfl rfl rfl rfl rfl hd (m_lay (w := upd2 (gTh w) 44 2 (nI s2.1)) (upd2_same _ _ _ _) e2 v3) ?_
  rw [q2, upd2_2]
  rintro _ _ ⟨rfl, a3, hag3, h453, rfl⟩
  iterate 2 refine r_step hk rfl rfl rfl ?_
  refine r_iret hk rfl trivial ?_
  exact hQ _ _ ⟨rfl, a3, gag_tr (gag_tr hag1 hag2) hag3, h453, rfl⟩
theorem m_isLetter {c : Nat} (hc : c < 1000) (S : gS) : gE d 98 [.int (nI c)] S (gbo (klt c = true) S) := by
  have hk : gMT[98]? = some gro_98 := rfl
  refine r_in hk [some (.int (nI c))] (Nat.le_of_ble_eq_true rfl) rfl ?_
  have e1 : nI c < 97 ↔ c < 97 := nI_ltI (b := 97) (by omega) (by omega)
  have e2 : 122 < nI c ↔ 122 < c := nI_ltI (a := 122) (by omega) (by omega)
  iterate 3 refine r_step hk rfl rfl rfl ?_
  refine r_lt (fun h3 => ?_) (fun h3 => ?_)
  · refine r_step hk rfl rfl rfl ?_
    refine r_iret hk rfl (Or.inl rfl) ?_
    first | exact gbo_f (fun h => by have := of_decide_eq_true h; have := e1.mp h3; omega) | exact gbo_f (fun h => by have := of_decide_eq_true h; have := e2.mp h9; omega) | exact gbo_t (decide_eq_true ⟨by have := mt e1.mpr h3; omega, by have := mt e2.mpr h9; omega⟩)
  · iterate 3 refine r_step hk rfl rfl rfl ?_
    refine r_gt (fun h9 => ?_) (fun h9 => ?_)
    · refine r_step hk rfl rfl rfl ?_
      refine r_iret hk rfl (Or.inl rfl) ?_
      first | exact gbo_f (fun h => by have := of_decide_eq_true h; have := e1.mp h3; omega) | exact gbo_f (fun h => by have := of_decide_eq_true h; have := e2.mp h9; omega) | exact gbo_t (decide_eq_true ⟨by have := mt e1.mpr h3; omega, by have := mt e2.mpr h9; omega⟩)
    · iterate 2 refine r_step hk rfl rfl rfl ?_
      refine r_iret hk rfl (Or.inr rfl) ?_
      first | exact gbo_f (fun h => by have := of_decide_eq_true h; have := e1.mp h3; omega) | exact gbo_f (fun h => by have := of_decide_eq_true h; have := e2.mp h9; omega) | exact gbo_t (decide_eq_true ⟨by have := mt e1.mpr h3; omega, by have := mt e2.mpr h9; omega⟩)
theorem m_isDigit {c : Nat} (hc : c < 1000) (S : gS) : gE d 100 [.int (nI c)] S (gbo (kdg c = true) S) := by
  have hk : gMT[100]? = some gro_100 := rfl
  refine r_in hk [some (.int (nI c))] (Nat.le_of_ble_eq_true rfl) rfl ?_
  have e1 : nI c < 48 ↔ c < 48 := nI_ltI (b := 48) (by omega) (by omega)
  have e2 : 57 < nI c ↔ 57 < c := nI_ltI (a := 57) (by omega) (by omega)
  iterate 3 refine r_step hk rfl rfl rfl ?_
  refine r_lt (fun h3 => ?_) (fun h3 => ?_)
  · refine r_step hk rfl rfl rfl ?_
    refine r_iret hk rfl (Or.inl rfl) ?_
    first | exact gbo_f (fun h => by have := of_decide_eq_true h; have := e1.mp h3; omega) | exact gbo_f (fun h => by have := of_decide_eq_true h; have := e2.mp h9; omega) | exact gbo_t (decide_eq_true ⟨by have := mt e1.mpr h3; omega, by have := mt e2.mpr h9; omega⟩)
  · iterate 3 refine r_step hk rfl rfl rfl ?_
    refine r_gt (fun h9 => ?_) (fun h9 => ?_)
    · refine r_step hk rfl rfl rfl ?_
      refine r_iret hk rfl (Or.inl rfl) ?_
      first | exact gbo_f (fun h => by have := of_decide_eq_true h; have := e1.mp h3; omega) | exact gbo_f (fun h => by have := of_decide_eq_true h; have := e2.mp h9; omega) | exact gbo_t (decide_eq_true ⟨by have := mt e1.mpr h3; omega, by have := mt e2.mpr h9; omega⟩)
    · iterate 2 refine r_step hk rfl rfl rfl ?_
      refine r_iret hk rfl (Or.inr rfl) ?_
      first | exact gbo_f (fun h => by have := of_decide_eq_true h; have := e1.mp h3; omega) | exact gbo_f (fun h => by have := of_decide_eq_true h; have := e2.mp h9; omega) | exact gbo_t (decide_eq_true ⟨by have := mt e1.mpr h3; omega, by have := mt e2.mpr h9; omega⟩)
theorem m_rank (hd : 1 ≤ d) {c : Nat} (hc : c < 1000) (hl : klt c = true) (S : gS) : gE d 99 [.int (nI c)] S (gre (nI (c - 96)) S) := by
  have hk : gMT[99]? = some gro_99 := rfl
  refine r_in hk [some (.int (nI c))] (Nat.le_of_ble_eq_true rfl) rfl ?_
  have h1 := of_decide_eq_true hl
  refine r_step hk rfl rfl rfl ?_
  refine r_callS hk [.int (nI c)] [] rfl rfl rfl rfl rfl hd (m_isLetter hc _) ?_
  rintro _ _ ⟨⟨hs, rfl⟩ | ⟨hs, rfl⟩, rfl⟩
  · refine r_step hk rfl rfl rfl ?_
    refine r_eq (fun hq9 => absurd hq9 (by decide)) (fun _ => ?_)
    iterate 4 refine r_step hk rfl rfl rfl ?_
    refine r_iret hk rfl trivial ?_
    exact ⟨congrArg (fun z => some (Value.int z)) (show nI c - 96 = _ from pk_sub (a := c) (b := 96) (by omega)), rfl⟩
  · exact absurd hl hs
theorem m_isSignOf {c : Nat} (hc : c < 1000) (S : gS) : gE d 101 [.int (nI c)] S (gbo (ksg c = true) S) := by
  have hk : gMT[101]? = some gro_101 := rfl
  refine r_in hk [some (.int (nI c))] (Nat.le_of_ble_eq_true rfl) rfl ?_
  have e : ∀ k, k < 1000 → (nI c = nI k ↔ c = k) := fun k hk => nI_eq (by omega) (by omega)
  have e1 : nI c = 40 ↔ c = 40 := e 40 (by omega)
  have e2 : nI c = 41 ↔ c = 41 := e 41 (by omega)
  have e3 : nI c = 59 ↔ c = 59 := e 59 (by omega)
  have e4 : nI c = 61 ↔ c = 61 := e 61 (by omega)
  have e5 : nI c = 60 ↔ c = 60 := e 60 (by omega)
  have e6 : nI c = 43 ↔ c = 43 := e 43 (by omega)
  have e7 : nI c = 45 ↔ c = 45 := e 45 (by omega)
  unfold ksg
  iterate 3 refine r_step hk rfl rfl rfl ?_
  refine r_eq (fun h3 => ?_) (fun h3 => ?_)
  · iterate 2 refine r_step hk rfl rfl rfl ?_
    refine r_iret hk rfl (Or.inr rfl) ?_
    first | exact gbo_t (decide_eq_true (by have := e1.mp h3; omega)) | exact gbo_t (decide_eq_true (by have := e2.mp h9; omega)) | exact gbo_t (decide_eq_true (by have := e3.mp h15; omega)) | exact gbo_t (decide_eq_true (by have := e4.mp h21; omega)) | exact gbo_t (decide_eq_true (by have := e5.mp h27; omega)) | exact gbo_t (decide_eq_true (by have := e6.mp h33; omega)) | exact gbo_t (decide_eq_true (by have := e7.mp h39; omega)) | exact gbo_f (fun h => by have h := of_decide_eq_true h; have := mt e1.mpr h3; have := mt e2.mpr h9; have := mt e3.mpr h15; have := mt e4.mpr h21; have := mt e5.mpr h27; have := mt e6.mpr h33; have := mt e7.mpr h39; omega)
  · iterate 3 refine r_step hk rfl rfl rfl ?_
    refine r_eq (fun h9 => ?_) (fun h9 => ?_)
    · iterate 2 refine r_step hk rfl rfl rfl ?_
      refine r_iret hk rfl (Or.inr rfl) ?_
      first | exact gbo_t (decide_eq_true (by have := e1.mp h3; omega)) | exact gbo_t (decide_eq_true (by have := e2.mp h9; omega)) | exact gbo_t (decide_eq_true (by have := e3.mp h15; omega)) | exact gbo_t (decide_eq_true (by have := e4.mp h21; omega)) | exact gbo_t (decide_eq_true (by have := e5.mp h27; omega)) | exact gbo_t (decide_eq_true (by have := e6.mp h33; omega)) | exact gbo_t (decide_eq_true (by have := e7.mp h39; omega)) | exact gbo_f (fun h => by have h := of_decide_eq_true h; have := mt e1.mpr h3; have := mt e2.mpr h9; have := mt e3.mpr h15; have := mt e4.mpr h21; have := mt e5.mpr h27; have := mt e6.mpr h33; have := mt e7.mpr h39; omega)
    · iterate 3 refine r_step hk rfl rfl rfl ?_
      refine r_eq (fun h15 => ?_) (fun h15 => ?_)
      · iterate 2 refine r_step hk rfl rfl rfl ?_
        refine r_iret hk rfl (Or.inr rfl) ?_
        first | exact gbo_t (decide_eq_true (by have := e1.mp h3; omega)) | exact gbo_t (decide_eq_true (by have := e2.mp h9; omega)) | exact gbo_t (decide_eq_true (by have := e3.mp h15; omega)) | exact gbo_t (decide_eq_true (by have := e4.mp h21; omega)) | exact gbo_t (decide_eq_true (by have := e5.mp h27; omega)) | exact gbo_t (decide_eq_true (by have := e6.mp h33; omega)) | exact gbo_t (decide_eq_true (by have := e7.mp h39; omega)) | exact gbo_f (fun h => by have h := of_decide_eq_true h; have := mt e1.mpr h3; have := mt e2.mpr h9; have := mt e3.mpr h15; have := mt e4.mpr h21; have := mt e5.mpr h27; have := mt e6.mpr h33; have := mt e7.mpr h39; omega)
      · iterate 3 refine r_step hk rfl rfl rfl ?_
        refine r_eq (fun h21 => ?_) (fun h21 => ?_)
        · iterate 2 refine r_step hk rfl rfl rfl ?_
          refine r_iret hk rfl (Or.inr rfl) ?_
          first | exact gbo_t (decide_eq_true (by have := e1.mp h3; omega)) | exact gbo_t (decide_eq_true (by have := e2.mp h9; omega)) | exact gbo_t (decide_eq_true (by have := e3.mp h15; omega)) | exact gbo_t (decide_eq_true (by have := e4.mp h21; omega)) | exact gbo_t (decide_eq_true (by have := e5.mp h27; omega)) | exact gbo_t (decide_eq_true (by have := e6.mp h33; omega)) | exact gbo_t (decide_eq_true (by have := e7.mp h39; omega)) | exact gbo_f (fun h => by have h := of_decide_eq_true h; have := mt e1.mpr h3; have := mt e2.mpr h9; have := mt e3.mpr h15; have := mt e4.mpr h21; have := mt e5.mpr h27; have := mt e6.mpr h33; have := mt e7.mpr h39; omega)
        · iterate 3 refine r_step hk rfl rfl rfl ?_
          refine r_eq (fun h27 => ?_) (fun h27 => ?_)
          · iterate 2 refine r_step hk rfl rfl rfl ?_
            refine r_iret hk rfl (Or.inr rfl) ?_
            first | exact gbo_t (decide_eq_true (by have := e1.mp h3; omega)) | exact gbo_t (decide_eq_true (by have := e2.mp h9; omega)) | exact gbo_t (decide_eq_true (by have := e3.mp h15; omega)) | exact gbo_t (decide_eq_true (by have := e4.mp h21; omega)) | exact gbo_t (decide_eq_true (by have := e5.mp h27; omega)) | exact gbo_t (decide_eq_true (by have := e6.mp h33; omega)) | exact gbo_t (decide_eq_true (by have := e7.mp h39; omega)) | exact gbo_f (fun h => by have h := of_decide_eq_true h; have := mt e1.mpr h3; have := mt e2.mpr h9; have := mt e3.mpr h15; have := mt e4.mpr h21; have := mt e5.mpr h27; have := mt e6.mpr h33; have := mt e7.mpr h39; omega)
          · iterate 3 refine r_step hk rfl rfl rfl ?_
            refine r_eq (fun h33 => ?_) (fun h33 => ?_)
            · iterate 2 refine r_step hk rfl rfl rfl ?_
              refine r_iret hk rfl (Or.inr rfl) ?_
              first | exact gbo_t (decide_eq_true (by have := e1.mp h3; omega)) | exact gbo_t (decide_eq_true (by have := e2.mp h9; omega)) | exact gbo_t (decide_eq_true (by have := e3.mp h15; omega)) | exact gbo_t (decide_eq_true (by have := e4.mp h21; omega)) | exact gbo_t (decide_eq_true (by have := e5.mp h27; omega)) | exact gbo_t (decide_eq_true (by have := e6.mp h33; omega)) | exact gbo_t (decide_eq_true (by have := e7.mp h39; omega)) | exact gbo_f (fun h => by have h := of_decide_eq_true h; have := mt e1.mpr h3; have := mt e2.mpr h9; have := mt e3.mpr h15; have := mt e4.mpr h21; have := mt e5.mpr h27; have := mt e6.mpr h33; have := mt e7.mpr h39; omega)
            · iterate 3 refine r_step hk rfl rfl rfl ?_
              refine r_ne (fun h39 => ?_) (fun h39 => ?_)
              · refine r_step hk rfl rfl rfl ?_
                refine r_iret hk rfl (Or.inl rfl) ?_
                first | exact gbo_t (decide_eq_true (by have := e1.mp h3; omega)) | exact gbo_t (decide_eq_true (by have := e2.mp h9; omega)) | exact gbo_t (decide_eq_true (by have := e3.mp h15; omega)) | exact gbo_t (decide_eq_true (by have := e4.mp h21; omega)) | exact gbo_t (decide_eq_true (by have := e5.mp h27; omega)) | exact gbo_t (decide_eq_true (by have := e6.mp h33; omega)) | exact gbo_t (decide_eq_true (by have := e7.mp h39; omega)) | exact gbo_f (fun h => by have h := of_decide_eq_true h; have := mt e1.mpr h3; have := mt e2.mpr h9; have := mt e3.mpr h15; have := mt e4.mpr h21; have := mt e5.mpr h27; have := mt e6.mpr h33; have := mt e7.mpr h39; omega)
              · iterate 2 refine r_step hk rfl rfl rfl ?_
                refine r_iret hk rfl (Or.inr rfl) ?_
                first | exact gbo_t (decide_eq_true (by have := e1.mp h3; omega)) | exact gbo_t (decide_eq_true (by have := e2.mp h9; omega)) | exact gbo_t (decide_eq_true (by have := e3.mp h15; omega)) | exact gbo_t (decide_eq_true (by have := e4.mp h21; omega)) | exact gbo_t (decide_eq_true (by have := e5.mp h27; omega)) | exact gbo_t (decide_eq_true (by have := e6.mp h33; omega)) | exact gbo_t (decide_eq_true (by have := e7.mp h39; omega)) | exact gbo_f (fun h => by have h := of_decide_eq_true h; have := mt e1.mpr h3; have := mt e2.mpr h9; have := mt e3.mpr h15; have := mt e4.mpr h21; have := mt e5.mpr h27; have := mt e6.mpr h33; have := mt e7.mpr h39; omega)
end GM13
