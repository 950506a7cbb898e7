-- deps: 37 38 39 43 44 45 46 47
/-! ===== the reference reads a text: parts, what goes on behind, lines ===== -/
theorem kwv_0 {x : Nat} (h : x = 0) : kwv x = 0 := if_pos h
theorem kwv_ne {x : Nat} (h : 10010 ≤ x ∧ x < 10015) : ¬ kwv x = 0 := by
  unfold kwv
  rw [if_neg (by omega)]
  exact nI_ne0 (by omega) (by omega)
theorem kwv_g {x : Nat} (h : 10010 ≤ x ∧ x < 10015) : kwv x = gmo x := by
  unfold kwv gmo
  rw [if_neg (by omega), if_neg (by omega), if_neg (by omega)]
section GM16
variable {w a : Nat → Nat → Int32} {b : Nat → Nat → Int64} {r : Nat → Nat → Nat} {q : Nat → Nat → Option Nat} {y : gH} {n u : Nat} {d : Nat}
theorem m_part (hd : 3 ≤ d) {h2 base idx K : Nat} {stk : List kWt} {ts : List kTok} {cs : List Nat} {ls : kLs} {wy : Nat} (hwd : ∀ k, k < 12 → b 49 k = lN (kwd.getD k 0)) (hb : base = klen ls + ls.length) (hK : K ≤ 601) (hin : kinv K (kA stk ts cs ls wy)) (h : kMs w a b h2 base idx stk ts cs) :
    gE d 108 [.ref 44] (n, u, HP w a b r q y) (fun v S' => ∃ w' a', kfr h2 base w a w' a' ∧ S' = (n, u, HP w' a' b r q y) ∧ ((v = some (.int 1) ∧ kMs w' a' b h2 base (idx + 1) ((0, 0, 0) :: stk) ts.tail cs ∧ kstep (kA stk ts cs ls wy) = kA ((0, 0, 0) :: stk) ts.tail cs ls wy) ∨ (v = some (.int 0) ∧ kMs w' a' b h2 base (idx + 1) stk ts.tail (cs ++ [kcode (khd ts)]) ∧ kstep (kA stk ts cs ls wy) = kB stk ts.tail (cs ++ [kcode (khd ts)]) ls wy) ∨ (v = some (.int 0) ∧ ∃ f, 1 ≤ f ∧ f < 10000 ∧ w' 44 8 = nI f ∧ (∃ c0, c0 < 660 ∧ w' 44 17 = nI c0) ∧ kstep (kA stk ts cs ls wy) = kF f))) := by
  have hk : gMT[108]? = some gro_108 := rfl
  refine r_inQ hk [some (.ref 44), none] (Nat.le_of_ble_eq_true rfl) rfl ?_
  intro Q hQ
  have hin2 := hin
  obtain ⟨j1, j2, j3, j4, j5, j6, j7, j8, j9, j10⟩ := hin
  have hts : ts ≠ [] := j9.1
  have hlt := klen_tl j9
  obtain ⟨hix, htr, hpl⟩ := kMs_ix h hts
  have h0 := h
  obtain ⟨i1, i2, i3, i4, i5, i6, i7, i8, i9, i10, i11⟩ := h
  have e7 : w 44 7 + 1 = nI (idx + 1) := by rw [i2]; exact nI_1 idx
  have hsl : 1 ≤ stk.length := by
    cases stk with
    | nil => exact absurd rfl j5
    | cons t r => simp
  have kst : kstep (kA stk ts cs ls wy) = if ¬ kIsPart (khd ts).1 then kfl 1 ts else if stk.length = 6 then kfl 5 ts else if (khd ts).1 = 40 then kA ((0, 0, 0) :: stk) ts.tail cs ls wy else kB stk ts.tail (cs ++ [kcode (khd ts)]) ls wy := rfl
  have flt : ∀ (f : Nat) (x : Int32), 1 ≤ f → f < 10000 → kstep (kA stk ts cs ls wy) = kF f → gX d 108 59 [some (.ref 44), some (.int x)] [] (n, u, HP (upd2 w 44 8 (nI f)) a b r q y) Q := by
    intro f x hf1 hf2 hst
    iterate 3 refine r_step hk rfl rfl rfl ?_
    refine r_le (fun hq9 => absurd hq9 (show ¬ upd2 w 44 8 (nI f) 44 8 ≤ 0 by rw [upd2_same]; exact nI_nle (by omega) (by omega))) (fun _ => ?_)
    refine r_step hk rfl rfl rfl ?_
    refine r_iret hk rfl (Or.inl rfl) ?_
    exact hQ _ _ ⟨_, a, kfr_w kfr_rf (by decide) _, rfl, Or.inr (Or.inr ⟨rfl, f, hf1, hf2, upd2_same _ _ _ _, ⟨base + cs.length, by omega, i8⟩, hst⟩)⟩
  have prt : ∀ x : Int32, kIsPart (khd ts).1 → ((∃ k, k < 6 ∧ (khd ts).1 = 206 + k ∧ x = nI k) ∨ ((khd ts).1 = 300 ∧ x = -1) ∨ ((khd ts).1 = 40 ∧ x = -1)) → gX d 108 46 [some (.ref 44), some (.int x)] [] (n, u, HP w a b r q y) Q := by
    intro x hp hx
    rw [if_neg (not_not_intro hp)] at kst
    by_cases h6 : stk.length = 6
    · rw [if_pos h6] at kst
      iterate 4 refine r_step hk rfl rfl rfl ?_
      refine r_ne (fun hq9 => absurd (show w 44 18 = 5 by rw [i10, h6]; rfl) hq9) (fun _ => ?_)
      iterate 2 refine r_step hk rfl rfl rfl ?_
      refine r_callV hk [.ref 44, .int 5] [] rfl rfl rfl rfl rfl rfl rfl (by omega) (m_wrong i1 i2 hix htr 5) ?_
      rintro _ _ ⟨rfl, rfl⟩
      exact flt (5 + 16 * (khd ts).2.2) x (by omega) (by omega) kst
    · rw [if_neg h6] at kst
      have h51 : ¬ w 44 18 = 5 := by
        rw [i10]
        intro z
        have := nI_inj (j := 5) z (by omega) (by omega)
        omega
      have h63 : w 44 8 ≤ 0 := by rw [i1]; decide
      by_cases h40 : (khd ts).1 = 40
      · rw [if_pos h40] at kst
        have e18 : upd2 w 44 7 (nI (idx + 1)) 44 18 + 1 = nI stk.length := by
          rw [upd2_col _ _ _ _ (by decide), i10, nI_1]
          congr 1; omega
        have hm2 := kMs_push (kMs_next h0 hts)
        iterate 4 refine r_step hk rfl rfl rfl ?_
        refine r_ne (fun _ => ?_) (fun hq9 => absurd hq9 h51)
        iterate 3 refine r_step hk rfl rfl rfl ?_
        refine r_le (fun _ => ?_) (fun hq9 => absurd h63 hq9)
        iterate 2 refine r_step hk rfl rfl rfl ?_
        refine r_callV hk [.ref 44, .int 40] [] rfl rfl rfl rfl rfl rfl rfl (by omega) (m_hasSign (by omega) i1 i2 hix htr (c := 40) rfl) ?_
        rintro _ _ (⟨hs, rfl, rfl⟩ | ⟨hs, rfl, rfl⟩)
        · refine r_step hk rfl rfl rfl ?_
          refine r_eq (fun hq9 => absurd hq9 (by decide)) (fun _ => ?_)
          iterate 5 refine r_step hk rfl rfl rfl ?_
          refine r_putI hk rfl rfl rfl rfl ?_
          refine r_step hk rfl rfl rfl ?_
          rw [e18]
          refine r_callV hk [.ref 44] [] rfl rfl rfl rfl rfl rfl rfl (by omega) (m_opens (w := upd2 (upd2 w 44 7 (nI (idx + 1))) 44 18 (nI stk.length)) (dp := stk.length) (upd2_same _ _ _ _) (by omega)) ?_
          rintro _ _ ⟨rfl, rfl⟩
          refine r_step hk rfl rfl rfl ?_
          refine r_iret hk rfl (Or.inr rfl) ?_
          exact hQ _ _ ⟨_, _, kfr_a (kfr_a (kfr_a (kfr_w (kfr_w kfr_rf (by decide) _) (by decide) _) (by decide) _ _) (by decide) _ _) (by decide) _ _, rfl, Or.inl ⟨rfl, hm2, kst⟩⟩
        · exact absurd h40 hs
      · rw [if_neg h40] at kst
        have hcl : base + cs.length < 660 := by omega
        have e7' : upd2 w 44 17 (nI (base + cs.length + 1)) 44 7 + 1 = nI (idx + 1) := by rw [upd2_col _ _ _ _ (by decide)]; exact e7
        have fin : ∀ (x x1 x2 : Int32), x1 = gmo (kcode (khd ts)) → x2 = gme (kcode (khd ts)) → gX d 108 121 [some (.ref 44), some (.int x)] [.int x2, .int x1, .ref 44] (n, u, HP w a b r q y) Q := by
          intro x x1 x2 hx1 hx2
          refine r_callV hk [.ref 44, .int x1, .int x2] [] rfl rfl rfl rfl rfl rfl rfl (by omega) (m_emit i6 i7 i8 hcl x1 x2) ?_
          rintro _ _ ⟨rfl, rfl⟩
          iterate 5 refine r_step hk rfl rfl rfl ?_
          refine r_putI hk rfl rfl rfl rfl ?_
          refine r_step hk rfl rfl rfl ?_
          refine r_iret hk rfl (Or.inl rfl) ?_
          rw [e7']
          exact hQ _ _ ⟨_, _, kfr_w (kfr_e kfr_rf (by omega) hcl _ _ _) (by decide) _, rfl, Or.inr (Or.inl ⟨rfl, kMs_next (kMs_emit h0 hx1 (fun _ => hx2)) hts, kst⟩)⟩
        rcases hx with ⟨k, hk6, hk7, hx⟩ | ⟨hk7, hx⟩ | ⟨hk7, hx⟩
        · have hkc : kcode (khd ts) = 10000 + k := by unfold kcode; rw [if_neg (by omega)]; omega
          subst hx
          iterate 4 refine r_step hk rfl rfl rfl ?_
          refine r_ne (fun _ => ?_) (fun hq9 => absurd hq9 h51)
          iterate 3 refine r_step hk rfl rfl rfl ?_
          refine r_le (fun _ => ?_) (fun hq9 => absurd h63 hq9)
          iterate 2 refine r_step hk rfl rfl rfl ?_
          refine r_callV hk [.ref 44, .int 40] [] rfl rfl rfl rfl rfl rfl rfl (by omega) (m_hasSign (by omega) i1 i2 hix htr (c := 40) rfl) ?_
          rintro _ _ (⟨hs, rfl, rfl⟩ | ⟨hs, rfl, rfl⟩)
          · exact absurd hs h40
          · refine r_step hk rfl rfl rfl ?_
            refine r_eq (fun _ => ?_) (fun hq9 => absurd (by decide) hq9)
            iterate 3 refine r_step hk rfl rfl rfl ?_
            refine r_ge (fun _ => ?_) (fun hq9 => absurd (show (0 : Int32) ≤ nI k from nI_pos' (by omega)) hq9)
            iterate 3 refine r_step hk rfl rfl rfl ?_
            refine r_ge (fun _ => ?_) (fun hq9 => absurd (show (0 : Int32) ≤ nI k from nI_pos' (by omega)) hq9)
            refine r_step hk rfl rfl rfl ?_
            exact fin _ _ _ (by rw [hkc]; unfold gmo; rw [if_neg (by omega), if_pos (by omega)]) (by rw [hkc]; unfold gme; rw [if_neg (by omega), if_pos (by omega), show 10000 + k - 10000 = k by omega])
        · have hkc : kcode (khd ts) = (khd ts).2.1 := by unfold kcode; rw [if_pos hk7]
          have hk9 := j9.2.1 _ (khd_mem j9) hk7
          have hbv : (b 48 idx).toInt32 = nI (khd ts).2.1 := by rw [(kTr_num htr).2 hk7]; exact lN_i _
          subst hx
          iterate 4 refine r_step hk rfl rfl rfl ?_
          refine r_ne (fun _ => ?_) (fun hq9 => absurd hq9 h51)
          iterate 3 refine r_step hk rfl rfl rfl ?_
          refine r_le (fun _ => ?_) (fun hq9 => absurd h63 hq9)
          iterate 2 refine r_step hk rfl rfl rfl ?_
          refine r_callV hk [.ref 44, .int 40] [] rfl rfl rfl rfl rfl rfl rfl (by omega) (m_hasSign (by omega) i1 i2 hix htr (c := 40) rfl) ?_
          rintro _ _ (⟨hs, rfl, rfl⟩ | ⟨hs, rfl, rfl⟩)
          · exact absurd hs h40
          · refine r_step hk rfl rfl rfl ?_
            refine r_eq (fun _ => ?_) (fun hq9 => absurd (by decide) hq9)
            iterate 3 refine r_step hk rfl rfl rfl ?_
            refine r_ge (fun hq9 => absurd hq9 (show ¬ (0 : Int32) ≤ -1 by decide)) (fun _ => ?_)
            iterate 4 refine r_step hk rfl rfl rfl ?_
            refine r_ge (fun hq9 => absurd hq9 (show ¬ (0 : Int32) ≤ -1 by decide)) (fun _ => ?_)
            iterate 4 refine r_step hk rfl rfl rfl ?_
            refine r_la hk (idx) rfl rfl i2 hix rfl ?_
            iterate 2 refine r_step hk rfl rfl rfl ?_
            exact fin _ _ _ (by rw [hkc]; unfold gmo; rw [if_pos (by omega)]) (by rw [hkc]; unfold gme; rw [if_pos (by omega)]; exact hbv)
        · exact absurd hk7 h40
  have bad : ¬ kIsPart (khd ts).1 → ∀ x : Int32, gX d 108 38 [some (.ref 44), some (.int x)] [] (n, u, HP w a b r q y) Q := by
    intro hp x
    rw [if_pos hp] at kst
    iterate 2 refine r_step hk rfl rfl rfl ?_
    refine r_callV hk [.ref 44, .int 1] [] rfl rfl rfl rfl rfl rfl rfl (by omega) (m_wrong i1 i2 hix htr 1) ?_
    rintro _ _ ⟨rfl, rfl⟩
    refine r_step hk rfl rfl rfl ?_
    exact flt (1 + 16 * (khd ts).2.2) x (by omega) (by omega) kst
  refine r_step hk rfl rfl rfl ?_
  refine r_callV hk [.ref 44] [] rfl rfl rfl rfl rfl rfl rfl (by omega) (m_partWord (by omega) hwd i1 i2 hix htr) ?_
  rintro _ _ ⟨rfl, ⟨k, hk6, hk7, rfl⟩ | ⟨hno, rfl⟩⟩
  · iterate 4 refine r_step hk rfl rfl rfl ?_
    refine r_ne (fun hq9 => absurd i1 hq9) (fun _ => ?_)
    iterate 4 refine r_step hk rfl rfl rfl ?_
    refine r_ia hk (idx) rfl rfl i2 hix rfl ?_
    iterate 2 refine r_step hk rfl rfl rfl ?_
    refine r_eq (fun h22 => ?_) (fun h22 => ?_)
    · first | exact prt _ (Or.inr (Or.inr ⟨hk6, by omega⟩)) (Or.inl ⟨k, hk6, hk7, rfl⟩) | exact prt _ (Or.inr (Or.inl ((kTr_num htr).1.mp h22))) (Or.inr (Or.inl ⟨(kTr_num htr).1.mp h22, rfl⟩)) | exact prt _ (Or.inl hs) (Or.inr (Or.inr ⟨hs, rfl⟩)) | exact prt _ (Or.inr (Or.inr ⟨by omega, by omega⟩)) (Or.inl ⟨k, hk6, hk7, rfl⟩) | exact absurd h35 (by decide)
    · iterate 2 refine r_step hk rfl rfl rfl ?_
      refine r_callV hk [.ref 44, .int 40] [] rfl rfl rfl rfl rfl rfl rfl (by omega) (m_isSign i1 i2 hix htr (c := 40) rfl) ?_
      rintro _ _ ⟨⟨hs, rfl⟩ | ⟨hs, rfl⟩, rfl⟩
      · refine r_step hk rfl rfl rfl ?_
        refine r_ne (fun _ => ?_) (fun hq9 => absurd hq9 (by decide))
        first | exact prt _ (Or.inr (Or.inr ⟨hk6, by omega⟩)) (Or.inl ⟨k, hk6, hk7, rfl⟩) | exact prt _ (Or.inr (Or.inl ((kTr_num htr).1.mp h22))) (Or.inr (Or.inl ⟨(kTr_num htr).1.mp h22, rfl⟩)) | exact prt _ (Or.inl hs) (Or.inr (Or.inr ⟨hs, rfl⟩)) | exact prt _ (Or.inr (Or.inr ⟨by omega, by omega⟩)) (Or.inl ⟨k, hk6, hk7, rfl⟩) | exact absurd h35 (by decide)
      · refine r_step hk rfl rfl rfl ?_
        refine r_ne (fun hq9 => absurd (by decide) hq9) (fun _ => ?_)
        iterate 2 refine r_step hk rfl rfl rfl ?_
        refine r_ge (fun h35 => ?_) (fun h35 => ?_)
        · first | exact prt _ (Or.inr (Or.inr ⟨hk6, by omega⟩)) (Or.inl ⟨k, hk6, hk7, rfl⟩) | exact prt _ (Or.inr (Or.inl ((kTr_num htr).1.mp h22))) (Or.inr (Or.inl ⟨(kTr_num htr).1.mp h22, rfl⟩)) | exact prt _ (Or.inl hs) (Or.inr (Or.inr ⟨hs, rfl⟩)) | exact prt _ (Or.inr (Or.inr ⟨by omega, by omega⟩)) (Or.inl ⟨k, hk6, hk7, rfl⟩) | exact absurd h35 (by decide)
        · first | exact absurd (show (0 : Int32) ≤ nI k from nI_pos' (by omega)) h35 | (refine bad ?_ _; rintro (z | z | z); exact hs z; exact h22 ((kTr_num htr).1.mpr z); exact hno ((khd ts).1 - 206) (by omega) (by omega))
  · iterate 4 refine r_step hk rfl rfl rfl ?_
    refine r_ne (fun hq9 => absurd i1 hq9) (fun _ => ?_)
    iterate 4 refine r_step hk rfl rfl rfl ?_
    refine r_ia hk (idx) rfl rfl i2 hix rfl ?_
    iterate 2 refine r_step hk rfl rfl rfl ?_
    refine r_eq (fun h22 => ?_) (fun h22 => ?_)
    · first | exact prt _ (Or.inr (Or.inr ⟨hk6, by omega⟩)) (Or.inl ⟨k, hk6, hk7, rfl⟩) | exact prt _ (Or.inr (Or.inl ((kTr_num htr).1.mp h22))) (Or.inr (Or.inl ⟨(kTr_num htr).1.mp h22, rfl⟩)) | exact prt _ (Or.inl hs) (Or.inr (Or.inr ⟨hs, rfl⟩)) | exact prt _ (Or.inr (Or.inr ⟨by omega, by omega⟩)) (Or.inl ⟨k, hk6, hk7, rfl⟩) | exact absurd h35 (by decide)
    · iterate 2 refine r_step hk rfl rfl rfl ?_
      refine r_callV hk [.ref 44, .int 40] [] rfl rfl rfl rfl rfl rfl rfl (by omega) (m_isSign i1 i2 hix htr (c := 40) rfl) ?_
      rintro _ _ ⟨⟨hs, rfl⟩ | ⟨hs, rfl⟩, rfl⟩
      · refine r_step hk rfl rfl rfl ?_
        refine r_ne (fun _ => ?_) (fun hq9 => absurd hq9 (by decide))
        first | exact prt _ (Or.inr (Or.inr ⟨hk6, by omega⟩)) (Or.inl ⟨k, hk6, hk7, rfl⟩) | exact prt _ (Or.inr (Or.inl ((kTr_num htr).1.mp h22))) (Or.inr (Or.inl ⟨(kTr_num htr).1.mp h22, rfl⟩)) | exact prt _ (Or.inl hs) (Or.inr (Or.inr ⟨hs, rfl⟩)) | exact prt _ (Or.inr (Or.inr ⟨by omega, by omega⟩)) (Or.inl ⟨k, hk6, hk7, rfl⟩) | exact absurd h35 (by decide)
      · refine r_step hk rfl rfl rfl ?_
        refine r_ne (fun hq9 => absurd (by decide) hq9) (fun _ => ?_)
        iterate 2 refine r_step hk rfl rfl rfl ?_
        refine r_ge (fun h35 => ?_) (fun h35 => ?_)
        · first | exact prt _ (Or.inr (Or.inr ⟨hk6, by omega⟩)) (Or.inl ⟨k, hk6, hk7, rfl⟩) | exact prt _ (Or.inr (Or.inl ((kTr_num htr).1.mp h22))) (Or.inr (Or.inl ⟨(kTr_num htr).1.mp h22, rfl⟩)) | exact prt _ (Or.inl hs) (Or.inr (Or.inr ⟨hs, rfl⟩)) | exact prt _ (Or.inr (Or.inr ⟨by omega, by omega⟩)) (Or.inl ⟨k, hk6, hk7, rfl⟩) | exact absurd h35 (by decide)
        · first | exact absurd (show (0 : Int32) ≤ nI k from nI_pos' (by omega)) h35 | (refine bad ?_ _; rintro (z | z | z); exact hs z; exact h22 ((kTr_num htr).1.mpr z); exact hno ((khd ts).1 - 206) (by omega) (by omega))
def kQb (n u : Nat) (b : Nat → Nat → Int64) (r : Nat → Nat → Nat) (q : Nat → Nat → Option Nat) (y : gH) (h2 base : Nat) (ls : kLs) (wy : Nat) (st0 : kSt) (N0 : Nat) (w0 a0 : Nat → Nat → Int32) : Option Value → gS → Prop := fun v S' => ∃ w' a', kfr h2 base w0 a0 w' a' ∧ S' = (n, u, HP w' a' b r q y) ∧ ((v = some (.int 1) ∧ ∃ idx stk ts cs, ts.length < N0 ∧ kR st0 (kA stk ts cs ls wy) ∧ kMs w' a' b h2 base idx stk ts cs) ∨ (v = some (.int 0) ∧ ∃ idx ts cs, kR st0 (kX ts cs ls wy) ∧ kMs w' a' b h2 base idx [(0, 0, 0)] ts cs) ∨ (v = some (.int 0) ∧ ∃ f, 1 ≤ f ∧ f < 10000 ∧ w' 44 8 = nI f ∧ (∃ c0, c0 < 660 ∧ w' 44 17 = nI c0) ∧ kR st0 (kF f)))
theorem m_gob (hd : 3 ≤ d) {h2 base K : Nat} {ls : kLs} {wy : Nat} {st0 : kSt} {N0 : Nat} {w0 a0 : Nat → Nat → Int32} (hwd : ∀ k, k < 12 → b 49 k = lN (kwd.getD k 0)) (hb : base = klen ls + ls.length) (hK : K ≤ 601) (hi0 : kinv K st0) : ∀ (k : Nat) (w a : Nat → Nat → Int32) (idx : Nat) (stk : List kWt) (ts : List kTok) (cs : List Nat), ts.length ≤ k → ts.length ≤ N0 → kR st0 (kB stk ts cs ls wy) → kfr h2 base w0 a0 w a → kMs w a b h2 base idx stk ts cs →
    gX d 113 0 [some (.ref 44)] [] (n, u, HP w a b r q y) (kQb n u b r q y h2 base ls wy st0 N0 w0 a0) := by
  have hk : gMT[113]? = some gro_113 := rfl
  intro k
  induction k with
  | zero =>
    intro w a idx stk ts cs hl hN hR hfr h
    obtain ⟨j1, j2, j3, j4, j5, j6, j7, j8, j9, j10⟩ := kinv_R hi0 hR
    exact absurd (List.length_eq_zero_iff.mp (by omega)) j9.1
  | succ k ih =>
    -- behind the and
    have sD2 : ∀ (w a : Nat → Nat → Int32) (idx : Nat) (rs : List kWt) (ts : List kTok) (cs : List Nat), ts.length ≤ k + 1 → ts.length ≤ N0 → kR st0 (kD ((0, 0, 0) :: rs) ts cs ls wy) → kfr h2 base w0 a0 w a → kMs w a b h2 base idx ((0, 0, 0) :: rs) ts cs → gX d 113 218 [some (.ref 44)] [] (n, u, HP w a b r q y) (kQb n u b r q y h2 base ls wy st0 N0 w0 a0) := by
      intro w a idx rs ts cs hl hN hR hfr h
      obtain ⟨j1, j2, j3, j4, j5, j6, j7, j8, j9, j10⟩ := kinv_R hi0 hR
      have hts : ts ≠ [] := j9.1
      have hlt := klen_tl j9
      obtain ⟨hix, htr, hpl⟩ := kMs_ix h hts
      have h0 := h
      obtain ⟨i1, i2, i3, i4, i5, i6, i7, i8, i9, i10, i11⟩ := h
      have hdp : w 44 18 = nI rs.length := i10
      have hrl : rs.length ≤ 4 := by simp at j6; omega
      have e7 : w 44 7 + 1 = nI (idx + 1) := by rw [i2]; exact nI_1 idx
      have kst : kstep (kD ((0, 0, 0) :: rs) ts cs ls wy) = if (khd ts).1 = 205 then kA ((0, 0, 10014) :: rs) ts.tail cs ls wy else if rs = [] then kX ts cs ls wy else if (khd ts).1 = 41 then kB rs ts.tail cs ls wy else kfl 1 ts := rfl
      have hdz : w 44 18 = 0 ↔ rs = [] := by
        rw [hdp]
        constructor
        · intro z
          have := nI_inj (j := 0) z (by omega) (by omega)
          exact List.length_eq_zero_iff.mp this
        · intro z; subst z; rfl
      refine r_step hk rfl rfl rfl ?_
      refine r_step hk rfl rfl rfl ?_
      refine r_callV hk [.ref 44, .int 5] [] rfl rfl rfl rfl rfl rfl rfl (by omega) (m_isWord hwd i1 i2 hix htr (c := 5) (by omega)) ?_
      rintro _ _ ⟨⟨hs, rfl⟩ | ⟨hs, rfl⟩, rfl⟩
      · rw [if_pos hs] at kst
        refine r_step hk rfl rfl rfl ?_
        refine r_eq (fun hq9 => absurd hq9 (show ¬ (1 : Int32) = 0 by decide)) (fun _ => ?_)
        iterate 5 refine r_step hk rfl rfl rfl ?_
        refine r_is hk (rs.length) rfl rfl rfl hdp (by omega) rfl rfl ?_
        iterate 5 refine r_step hk rfl rfl rfl ?_
        refine r_putI hk rfl rfl rfl rfl ?_
        refine r_step hk rfl rfl rfl ?_
        refine r_iret hk rfl (Or.inr rfl) ?_
        rw [e7]
        exact ⟨_, _, kfr_w (kfr_a hfr (by decide) _ _) (by decide) _, rfl, Or.inl ⟨rfl, idx + 1, (0, 0, 10014) :: rs, ts.tail, cs, by omega, kR_end hR kst, kMs_next (kMs_a h0 (by decide) rfl (kMw_z i11 rfl)) hts⟩⟩
      · rw [if_neg hs] at kst
        by_cases hrn : rs = []
        · rw [if_pos hrn] at kst
          refine r_step hk rfl rfl rfl ?_
          refine r_eq (fun _ => ?_) (fun hq9 => absurd (show (0 : Int32) = 0 from rfl) hq9)
          iterate 3 refine r_step hk rfl rfl rfl ?_
          refine r_ne (fun hq9 => absurd (hdz.mpr hrn) hq9) (fun _ => ?_)
          refine r_step hk rfl rfl rfl ?_
          refine r_iret hk rfl (Or.inl rfl) ?_
          exact ⟨_, _, hfr, rfl, Or.inr (Or.inl ⟨rfl, idx, ts, cs, kR_end hR kst, by rw [hrn] at h0; exact h0⟩)⟩
        · rw [if_neg hrn] at kst
          have hrp : 1 ≤ rs.length := by
            cases rs with
            | nil => exact absurd rfl hrn
            | cons t r => simp
          refine r_step hk rfl rfl rfl ?_
          refine r_eq (fun _ => ?_) (fun hq9 => absurd rfl hq9)
          iterate 3 refine r_step hk rfl rfl rfl ?_
          refine r_ne (fun _ => ?_) (fun hq9 => absurd (hdz.mp hq9) hrn)
          iterate 2 refine r_step hk rfl rfl rfl ?_
          refine r_callV hk [.ref 44, .int 41] [] rfl rfl rfl rfl rfl rfl rfl (by omega) (m_takeSign (by omega) i1 i2 hix htr (c := 41) rfl) ?_
          rintro _ _ ⟨rfl, ⟨h41, rfl⟩ | ⟨h41, rfl⟩⟩
          · rw [if_pos h41] at kst
            have e18 : upd2 w 44 7 (nI (idx + 1)) 44 18 - 1 = nI (rs.length - 1) := by
              rw [upd2_col _ _ _ _ (by decide), hdp]
              exact pk_sub (a := rs.length) (b := 1) hrp
            iterate 5 refine r_step hk rfl rfl rfl ?_
            refine r_putI hk rfl rfl rfl rfl ?_
            refine r_step hk rfl rfl rfl ?_
            rw [e18]
            exact ih _ _ (idx + 1) rs ts.tail cs (by omega) (by omega) (kR_end hR kst) (kfr_w (kfr_w hfr (by decide) _) (by decide) _) (kMs_pop (kMs_next h0 hts))
          · rw [if_neg h41] at kst
            iterate 5 refine r_step hk rfl rfl rfl ?_
            refine r_putI hk rfl rfl rfl rfl ?_
            iterate 4 refine r_step hk rfl rfl rfl ?_
            refine r_ne (fun _ => ?_) (fun hq9 => absurd hq9 (show ¬ nI (1 + 16 * (khd ts).2.2) = 0 from nI_ne0 (by omega) (by omega)))
            refine r_step hk rfl rfl rfl ?_
            refine r_iret hk rfl (Or.inl rfl) ?_
            exact ⟨_, _, kfr_w (kfr_w hfr (by decide) _) (by decide) _, rfl, Or.inr (Or.inr ⟨rfl, 1 + 16 * (khd ts).2.2, by omega, by omega, by rw [upd2_col _ _ _ _ (by decide), upd2_same], ⟨base + cs.length, by omega, i8⟩, kR_end hR kst⟩)⟩
    have sD : ∀ (w a : Nat → Nat → Int32) (idx z : Nat) (rs : List kWt) (ts : List kTok) (cs : List Nat), ts.length ≤ k + 1 → ts.length ≤ N0 → kR st0 (kD ((0, 0, z) :: rs) ts cs ls wy) → kfr h2 base w0 a0 w a → kMs w a b h2 base idx ((0, 0, z) :: rs) ts cs → gX d 113 189 [some (.ref 44)] [] (n, u, HP w a b r q y) (kQb n u b r q y h2 base ls wy st0 N0 w0 a0) := by
      intro w a idx z rs ts cs hl hN hR hfr h
      obtain ⟨j1, j2, j3, j4, j5, j6, j7, j8, j9, j10⟩ := kinv_R hi0 hR
      have h0 := h
      obtain ⟨i1, i2, i3, i4, i5, i6, i7, i8, i9, i10, i11⟩ := h
      have hdp : w 44 18 = nI rs.length := i10
      have hrl : rs.length ≤ 4 := by simp at j6; omega
      have hz := (j7 (0, 0, z) (by simp)).2.2
      have hw57 : a 57 rs.length = kwv z := i11.2.2.1
      by_cases hz0 : z = 0
      · subst hz0
        iterate 4 refine r_step hk rfl rfl rfl ?_
        refine r_ia hk (rs.length) rfl rfl hdp (by omega) rfl ?_
        refine r_step hk rfl rfl rfl ?_
        refine r_eq (fun _ => ?_) (fun hq9 => absurd (show a 57 rs.length = 0 by rw [hw57]; exact kwv_0 rfl) hq9)
        exact sD2 w a idx rs ts cs hl hN hR hfr h0
      · have hz4 : z = 10014 := by rcases hz with e | e; exact absurd e hz0; exact e
        have kst : kstep (kD ((0, 0, z) :: rs) ts cs ls wy) = kD ((0, 0, 0) :: rs) ts (cs ++ [10014]) ls wy := if_pos hz0
        have hcl : base + cs.length < 660 := by omega
        iterate 4 refine r_step hk rfl rfl rfl ?_
        refine r_ia hk (rs.length) rfl rfl hdp (by omega) rfl ?_
        refine r_step hk rfl rfl rfl ?_
        refine r_eq (fun hq9 => absurd hq9 (show ¬ a 57 rs.length = 0 by rw [hw57]; exact kwv_ne (by omega))) (fun _ => ?_)
        iterate 3 refine r_step hk rfl rfl rfl ?_
        refine r_callV hk [.ref 44, .int 7, .int 0] [] rfl rfl rfl rfl rfl rfl rfl (by omega) (m_emit i6 i7 i8 hcl 7 0) ?_
        rintro _ _ ⟨rfl, rfl⟩
        have hm1 := kMs_emit h0 (e := 10014) (x1 := 7) (x2 := 0) (by decide) (fun z => absurd z (by decide))
        iterate 5 refine r_step hk rfl rfl rfl ?_
        refine r_is hk (rs.length) rfl rfl rfl (show upd2 w 44 17 (nI (base + cs.length + 1)) 44 18 = nI rs.length by rw [upd2_col _ _ _ _ (by decide)]; exact hdp) (by omega) rfl rfl ?_
        exact sD2 _ _ idx rs ts (cs ++ [10014]) hl hN (kR_end hR kst) (kfr_a (kfr_e hfr (by omega) hcl _ _ _) (by decide) _ _) (kMs_a hm1 (by decide) rfl (kMw_z hm1.2.2.2.2.2.2.2.2.2.2 (kwv_0 rfl).symm))
    have sC : ∀ (w a : Nat → Nat → Int32) (idx c z : Nat) (rs : List kWt) (ts : List kTok) (cs : List Nat), ts.length ≤ k + 1 → ts.length ≤ N0 → kR st0 (kC ((0, c, z) :: rs) ts cs ls wy) → kfr h2 base w0 a0 w a → kMs w a b h2 base idx ((0, c, z) :: rs) ts cs → gX d 113 96 [some (.ref 44)] [] (n, u, HP w a b r q y) (kQb n u b r q y h2 base ls wy st0 N0 w0 a0) := by
      intro w a idx c z rs ts cs hl hN hR hfr h
      obtain ⟨j1, j2, j3, j4, j5, j6, j7, j8, j9, j10⟩ := kinv_R hi0 hR
      have hts : ts ≠ [] := j9.1
      have hlt := klen_tl j9
      obtain ⟨hix, htr, hpl⟩ := kMs_ix h hts
      have h0 := h
      obtain ⟨i1, i2, i3, i4, i5, i6, i7, i8, i9, i10, i11⟩ := h
      have hdp : w 44 18 = nI rs.length := i10
      have hrl : rs.length ≤ 4 := by simp at j6; omega
      have hc := (j7 (0, c, z) (by simp)).2.1
      have hw56 : a 56 rs.length = kwv c := i11.2.1
      have e7 : w 44 7 + 1 = nI (idx + 1) := by rw [i2]; exact nI_1 idx
      by_cases hc0 : c = 0
      · subst hc0
        have kst : kstep (kC ((0, 0, z) :: rs) ts cs ls wy) = if (khd ts).1 = 60 ∨ (khd ts).1 = 61 then kA ((0, if (khd ts).1 = 60 then 10012 else 10013, z) :: rs) ts.tail cs ls wy else kD ((0, 0, z) :: rs) ts cs ls wy := rfl
        by_cases hs : (khd ts).1 = 60
        · rw [if_pos (Or.inl hs), if_pos hs] at kst
          iterate 4 refine r_step hk rfl rfl rfl ?_
          refine r_ia hk (rs.length) rfl rfl hdp (by omega) rfl ?_
          refine r_step hk rfl rfl rfl ?_
          refine r_eq (fun _ => ?_) (fun hq9 => absurd (show a 56 rs.length = 0 by rw [hw56]; exact kwv_0 rfl) hq9)
          iterate 2 refine r_step hk rfl rfl rfl ?_
          refine r_callV hk [.ref 44, .int 60] [] rfl rfl rfl rfl rfl rfl rfl (by omega) (m_isSign i1 i2 hix htr (c := 60) rfl) ?_
          rintro _ _ ⟨⟨hs1, rfl⟩ | ⟨hs1, rfl⟩, rfl⟩
          · refine r_step hk rfl rfl rfl ?_
            refine r_ne (fun _ => ?_) (fun hq9 => absurd hq9 (by decide))
            iterate 6 refine r_step hk rfl rfl rfl ?_
            refine r_callV hk [.ref 44, .int 60] [.int (w 44 18), .ref 56] rfl rfl rfl rfl rfl rfl rfl (by omega) (m_isSign i1 i2 hix htr (c := 60) rfl) ?_
            rintro _ _ ⟨⟨hs2, rfl⟩ | ⟨hs2, rfl⟩, rfl⟩
            · refine r_step hk rfl rfl rfl ?_
              refine r_eq (fun hq9 => absurd hq9 (by decide)) (fun _ => ?_)
              iterate 2 refine r_step hk rfl rfl rfl ?_
              refine r_is hk (rs.length) rfl rfl rfl hdp (by omega) rfl rfl ?_
              iterate 5 refine r_step hk rfl rfl rfl ?_
              refine r_putI hk rfl rfl rfl rfl ?_
              refine r_step hk rfl rfl rfl ?_
              refine r_iret hk rfl (Or.inr rfl) ?_
              rw [e7]
              exact ⟨_, _, kfr_w (kfr_a hfr (by decide) _ _) (by decide) _, rfl, Or.inl ⟨rfl, idx + 1, _, ts.tail, cs, by omega, kR_end hR kst, kMs_next (kMs_a h0 (by decide) rfl (kMw_c i11 (by decide))) hts⟩⟩
            · exact absurd hs hs2
          · exact absurd hs hs1
        · by_cases hs61 : (khd ts).1 = 61
          · rw [if_pos (Or.inr hs61), if_neg hs] at kst
            iterate 4 refine r_step hk rfl rfl rfl ?_
            refine r_ia hk (rs.length) rfl rfl hdp (by omega) rfl ?_
            refine r_step hk rfl rfl rfl ?_
            refine r_eq (fun _ => ?_) (fun hq9 => absurd (show a 56 rs.length = 0 by rw [hw56]; exact kwv_0 rfl) hq9)
            iterate 2 refine r_step hk rfl rfl rfl ?_
            refine r_callV hk [.ref 44, .int 60] [] rfl rfl rfl rfl rfl rfl rfl (by omega) (m_isSign i1 i2 hix htr (c := 60) rfl) ?_
            rintro _ _ ⟨⟨hs1, rfl⟩ | ⟨hs1, rfl⟩, rfl⟩
            · exact absurd hs1 hs
            · refine r_step hk rfl rfl rfl ?_
              refine r_ne (fun hq9 => absurd (by decide) hq9) (fun _ => ?_)
              iterate 2 refine r_step hk rfl rfl rfl ?_
              refine r_callV hk [.ref 44, .int 61] [] rfl rfl rfl rfl rfl rfl rfl (by omega) (m_isSign i1 i2 hix htr (c := 61) rfl) ?_
              rintro _ _ ⟨⟨hs1, rfl⟩ | ⟨hs1, rfl⟩, rfl⟩
              · refine r_step hk rfl rfl rfl ?_
                refine r_eq (fun hq9 => absurd hq9 (by decide)) (fun _ => ?_)
                iterate 6 refine r_step hk rfl rfl rfl ?_
                refine r_callV hk [.ref 44, .int 60] [.int (w 44 18), .ref 56] rfl rfl rfl rfl rfl rfl rfl (by omega) (m_isSign i1 i2 hix htr (c := 60) rfl) ?_
                rintro _ _ ⟨⟨hs2, rfl⟩ | ⟨hs2, rfl⟩, rfl⟩
                · exact absurd hs2 hs
                · refine r_step hk rfl rfl rfl ?_
                  refine r_eq (fun _ => ?_) (fun hq9 => absurd (by decide) hq9)
                  refine r_step hk rfl rfl rfl ?_
                  refine r_is hk (rs.length) rfl rfl rfl hdp (by omega) rfl rfl ?_
                  iterate 5 refine r_step hk rfl rfl rfl ?_
                  refine r_putI hk rfl rfl rfl rfl ?_
                  refine r_step hk rfl rfl rfl ?_
                  refine r_iret hk rfl (Or.inr rfl) ?_
                  rw [e7]
                  exact ⟨_, _, kfr_w (kfr_a hfr (by decide) _ _) (by decide) _, rfl, Or.inl ⟨rfl, idx + 1, _, ts.tail, cs, by omega, kR_end hR kst, kMs_next (kMs_a h0 (by decide) rfl (kMw_c i11 (by decide))) hts⟩⟩
              · exact absurd hs61 hs1
          · rw [if_neg (fun z => z.elim hs hs61)] at kst
            iterate 4 refine r_step hk rfl rfl rfl ?_
            refine r_ia hk (rs.length) rfl rfl hdp (by omega) rfl ?_
            refine r_step hk rfl rfl rfl ?_
            refine r_eq (fun _ => ?_) (fun hq9 => absurd (show a 56 rs.length = 0 by rw [hw56]; exact kwv_0 rfl) hq9)
            iterate 2 refine r_step hk rfl rfl rfl ?_
            refine r_callV hk [.ref 44, .int 60] [] rfl rfl rfl rfl rfl rfl rfl (by omega) (m_isSign i1 i2 hix htr (c := 60) rfl) ?_
            rintro _ _ ⟨⟨hs1, rfl⟩ | ⟨hs1, rfl⟩, rfl⟩
            · exact absurd hs1 hs
            · refine r_step hk rfl rfl rfl ?_
              refine r_ne (fun hq9 => absurd (by decide) hq9) (fun _ => ?_)
              iterate 2 refine r_step hk rfl rfl rfl ?_
              refine r_callV hk [.ref 44, .int 61] [] rfl rfl rfl rfl rfl rfl rfl (by omega) (m_isSign i1 i2 hix htr (c := 61) rfl) ?_
              rintro _ _ ⟨⟨hs1, rfl⟩ | ⟨hs1, rfl⟩, rfl⟩
              · exact absurd hs1 hs61
              · refine r_step hk rfl rfl rfl ?_
                refine r_eq (fun _ => ?_) (fun hq9 => absurd (by decide) hq9)
                exact sD w a idx z rs ts cs hl hN (kR_end hR kst) hfr h0
      · have hcr : 10010 ≤ c ∧ c < 10015 := by rcases hc with e | e | e <;> simp only at e <;> omega
        have kst : kstep (kC ((0, c, z) :: rs) ts cs ls wy) = kD ((0, 0, z) :: rs) ts (cs ++ [c]) ls wy := if_pos hc0
        have hcl : base + cs.length < 660 := by omega
        iterate 4 refine r_step hk rfl rfl rfl ?_
        refine r_ia hk (rs.length) rfl rfl hdp (by omega) rfl ?_
        refine r_step hk rfl rfl rfl ?_
        refine r_eq (fun hq9 => absurd hq9 (show ¬ a 56 rs.length = 0 by rw [hw56]; exact kwv_ne hcr)) (fun _ => ?_)
        iterate 5 refine r_step hk rfl rfl rfl ?_
        refine r_ia hk (rs.length) rfl rfl hdp (by omega) rfl ?_
        refine r_step hk rfl rfl rfl ?_
        refine r_callV hk [.ref 44, .int (a 56 rs.length), .int 0] [] rfl rfl rfl rfl rfl rfl rfl (by omega) (m_emit i6 i7 i8 hcl _ 0) ?_
        rintro _ _ ⟨rfl, rfl⟩
        have hm1 := kMs_emit h0 (e := c) (x1 := a 56 rs.length) (x2 := 0) (by rw [hw56]; exact kwv_g hcr) (fun z => by omega)
        iterate 5 refine r_step hk rfl rfl rfl ?_
        refine r_is hk (rs.length) rfl rfl rfl (show upd2 w 44 17 (nI (base + cs.length + 1)) 44 18 = nI rs.length by rw [upd2_col _ _ _ _ (by decide)]; exact hdp) (by omega) rfl rfl ?_
        refine r_step hk rfl rfl rfl ?_
        exact sD _ _ idx z rs ts (cs ++ [c]) hl hN (kR_end hR kst) (kfr_a (kfr_e hfr (by omega) hcl _ _ _) (by decide) _ _) (kMs_a hm1 (by decide) rfl (kMw_c hm1.2.2.2.2.2.2.2.2.2.2 (kwv_0 rfl).symm))
    have sB : ∀ (w a : Nat → Nat → Int32) (idx c z : Nat) (rs : List kWt) (ts : List kTok) (cs : List Nat), ts.length ≤ k + 1 → ts.length ≤ N0 → kR st0 (kB ((0, c, z) :: rs) ts cs ls wy) → kfr h2 base w0 a0 w a → kMs w a b h2 base idx ((0, c, z) :: rs) ts cs → gX d 113 43 [some (.ref 44)] [] (n, u, HP w a b r q y) (kQb n u b r q y h2 base ls wy st0 N0 w0 a0) := by
      intro w a idx c z rs ts cs hl hN hR hfr h
      obtain ⟨j1, j2, j3, j4, j5, j6, j7, j8, j9, j10⟩ := kinv_R hi0 hR
      have hts : ts ≠ [] := j9.1
      have hlt := klen_tl j9
      obtain ⟨hix, htr, hpl⟩ := kMs_ix h hts
      have h0 := h
      obtain ⟨i1, i2, i3, i4, i5, i6, i7, i8, i9, i10, i11⟩ := h
      have hdp : w 44 18 = nI rs.length := i10
      have hrl : rs.length ≤ 4 := by simp at j6; omega
      have e7 : w 44 7 + 1 = nI (idx + 1) := by rw [i2]; exact nI_1 idx
      have kst : kstep (kB ((0, c, z) :: rs) ts cs ls wy) = if (khd ts).1 = 43 ∨ (khd ts).1 = 45 then kA ((if (khd ts).1 = 43 then 10010 else 10011, c, z) :: rs) ts.tail cs ls wy else kC ((0, c, z) :: rs) ts cs ls wy := rfl
      by_cases hs : (khd ts).1 = 43
      · rw [if_pos (Or.inl hs), if_pos hs] at kst
        iterate 2 refine r_step hk rfl rfl rfl ?_
        refine r_callV hk [.ref 44, .int 43] [] rfl rfl rfl rfl rfl rfl rfl (by omega) (m_isSign i1 i2 hix htr (c := 43) rfl) ?_
        rintro _ _ ⟨⟨hs1, rfl⟩ | ⟨hs1, rfl⟩, rfl⟩
        · refine r_step hk rfl rfl rfl ?_
          refine r_ne (fun _ => ?_) (fun hq9 => absurd hq9 (by decide))
          iterate 6 refine r_step hk rfl rfl rfl ?_
          refine r_callV hk [.ref 44, .int 43] [.int (w 44 18), .ref 55] rfl rfl rfl rfl rfl rfl rfl (by omega) (m_isSign i1 i2 hix htr (c := 43) rfl) ?_
          rintro _ _ ⟨⟨hs2, rfl⟩ | ⟨hs2, rfl⟩, rfl⟩
          · refine r_step hk rfl rfl rfl ?_
            refine r_eq (fun hq9 => absurd hq9 (by decide)) (fun _ => ?_)
            iterate 2 refine r_step hk rfl rfl rfl ?_
            refine r_is hk (rs.length) rfl rfl rfl hdp (by omega) rfl rfl ?_
            iterate 5 refine r_step hk rfl rfl rfl ?_
            refine r_putI hk rfl rfl rfl rfl ?_
            refine r_step hk rfl rfl rfl ?_
            refine r_iret hk rfl (Or.inr rfl) ?_
            rw [e7]
            exact ⟨_, _, kfr_w (kfr_a hfr (by decide) _ _) (by decide) _, rfl, Or.inl ⟨rfl, idx + 1, _, ts.tail, cs, by omega, kR_end hR kst, kMs_next (kMs_a h0 (by decide) rfl (kMw_s i11 (by decide))) hts⟩⟩
          · exact absurd hs hs2
        · exact absurd hs hs1
      · by_cases hs45 : (khd ts).1 = 45
        · rw [if_pos (Or.inr hs45), if_neg hs] at kst
          iterate 2 refine r_step hk rfl rfl rfl ?_
          refine r_callV hk [.ref 44, .int 43] [] rfl rfl rfl rfl rfl rfl rfl (by omega) (m_isSign i1 i2 hix htr (c := 43) rfl) ?_
          rintro _ _ ⟨⟨hs1, rfl⟩ | ⟨hs1, rfl⟩, rfl⟩
          · exact absurd hs1 hs
          · refine r_step hk rfl rfl rfl ?_
            refine r_ne (fun hq9 => absurd (by decide) hq9) (fun _ => ?_)
            iterate 2 refine r_step hk rfl rfl rfl ?_
            refine r_callV hk [.ref 44, .int 45] [] rfl rfl rfl rfl rfl rfl rfl (by omega) (m_isSign i1 i2 hix htr (c := 45) rfl) ?_
            rintro _ _ ⟨⟨hs1, rfl⟩ | ⟨hs1, rfl⟩, rfl⟩
            · refine r_step hk rfl rfl rfl ?_
              refine r_eq (fun hq9 => absurd hq9 (by decide)) (fun _ => ?_)
              iterate 6 refine r_step hk rfl rfl rfl ?_
              refine r_callV hk [.ref 44, .int 43] [.int (w 44 18), .ref 55] rfl rfl rfl rfl rfl rfl rfl (by omega) (m_isSign i1 i2 hix htr (c := 43) rfl) ?_
              rintro _ _ ⟨⟨hs2, rfl⟩ | ⟨hs2, rfl⟩, rfl⟩
              · exact absurd hs2 hs
              · refine r_step hk rfl rfl rfl ?_
                refine r_eq (fun _ => ?_) (fun hq9 => absurd (by decide) hq9)
                refine r_step hk rfl rfl rfl ?_
                refine r_is hk (rs.length) rfl rfl rfl hdp (by omega) rfl rfl ?_
                iterate 5 refine r_step hk rfl rfl rfl ?_
                refine r_putI hk rfl rfl rfl rfl ?_
                refine r_step hk rfl rfl rfl ?_
                refine r_iret hk rfl (Or.inr rfl) ?_
                rw [e7]
                exact ⟨_, _, kfr_w (kfr_a hfr (by decide) _ _) (by decide) _, rfl, Or.inl ⟨rfl, idx + 1, _, ts.tail, cs, by omega, kR_end hR kst, kMs_next (kMs_a h0 (by decide) rfl (kMw_s i11 (by decide))) hts⟩⟩
            · exact absurd hs45 hs1
        · rw [if_neg (fun z => z.elim hs hs45)] at kst
          iterate 2 refine r_step hk rfl rfl rfl ?_
          refine r_callV hk [.ref 44, .int 43] [] rfl rfl rfl rfl rfl rfl rfl (by omega) (m_isSign i1 i2 hix htr (c := 43) rfl) ?_
          rintro _ _ ⟨⟨hs1, rfl⟩ | ⟨hs1, rfl⟩, rfl⟩
          · exact absurd hs1 hs
          · refine r_step hk rfl rfl rfl ?_
            refine r_ne (fun hq9 => absurd (by decide) hq9) (fun _ => ?_)
            iterate 2 refine r_step hk rfl rfl rfl ?_
            refine r_callV hk [.ref 44, .int 45] [] rfl rfl rfl rfl rfl rfl rfl (by omega) (m_isSign i1 i2 hix htr (c := 45) rfl) ?_
            rintro _ _ ⟨⟨hs1, rfl⟩ | ⟨hs1, rfl⟩, rfl⟩
            · exact absurd hs1 hs45
            · refine r_step hk rfl rfl rfl ?_
              refine r_eq (fun _ => ?_) (fun hq9 => absurd (by decide) hq9)
              exact sC w a idx c z rs ts cs hl hN (kR_end hR kst) hfr h0
    intro w a idx stk ts cs hl hN hR hfr h
    obtain ⟨j1, j2, j3, j4, j5, j6, j7, j8, j9, j10⟩ := kinv_R hi0 hR
    cases stk with
    | nil => exact absurd rfl j5
    | cons t rs =>
      obtain ⟨s, c, z⟩ := t
      have h0 := h
      obtain ⟨i1, i2, i3, i4, i5, i6, i7, i8, i9, i10, i11⟩ := h
      have hdp : w 44 18 = nI rs.length := i10
      have hrl : rs.length ≤ 4 := by simp at j6; omega
      have hs := (j7 (s, c, z) (by simp)).1
      have hw55 : a 55 rs.length = kwv s := i11.1
      by_cases hs0 : s = 0
      · subst hs0
        iterate 3 refine r_step hk rfl rfl rfl ?_
        refine r_ne (fun hq9 => absurd i1 hq9) (fun _ => ?_)
        iterate 4 refine r_step hk rfl rfl rfl ?_
        refine r_ia hk (rs.length) rfl rfl hdp (by omega) rfl ?_
        refine r_step hk rfl rfl rfl ?_
        refine r_eq (fun _ => ?_) (fun hq9 => absurd (show a 55 rs.length = 0 by rw [hw55]; exact kwv_0 rfl) hq9)
        exact sB w a idx c z rs ts cs hl hN hR hfr h0
      · have hsr : 10010 ≤ s ∧ s < 10015 := by rcases hs with e | e | e <;> simp only at e <;> omega
        have kst : kstep (kB ((s, c, z) :: rs) ts cs ls wy) = kB ((0, c, z) :: rs) ts (cs ++ [s]) ls wy := if_pos hs0
        have hcl : base + cs.length < 660 := by omega
        iterate 3 refine r_step hk rfl rfl rfl ?_
        refine r_ne (fun hq9 => absurd i1 hq9) (fun _ => ?_)
        iterate 4 refine r_step hk rfl rfl rfl ?_
        refine r_ia hk (rs.length) rfl rfl hdp (by omega) rfl ?_
        refine r_step hk rfl rfl rfl ?_
        refine r_eq (fun hq9 => absurd hq9 (show ¬ a 55 rs.length = 0 by rw [hw55]; exact kwv_ne hsr)) (fun _ => ?_)
        iterate 5 refine r_step hk rfl rfl rfl ?_
        refine r_ia hk (rs.length) rfl rfl hdp (by omega) rfl ?_
        refine r_step hk rfl rfl rfl ?_
        refine r_callV hk [.ref 44, .int (a 55 rs.length), .int 0] [] rfl rfl rfl rfl rfl rfl rfl (by omega) (m_emit i6 i7 i8 hcl _ 0) ?_
        rintro _ _ ⟨rfl, rfl⟩
        have hm1 := kMs_emit h0 (e := s) (x1 := a 55 rs.length) (x2 := 0) (by rw [hw55]; exact kwv_g hsr) (fun z => by omega)
        iterate 5 refine r_step hk rfl rfl rfl ?_
        refine r_is hk (rs.length) rfl rfl rfl (show upd2 w 44 17 (nI (base + cs.length + 1)) 44 18 = nI rs.length by rw [upd2_col _ _ _ _ (by decide)]; exact hdp) (by omega) rfl rfl ?_
        exact sB _ _ idx c z rs ts (cs ++ [s]) hl hN (kR_end hR kst) (kfr_a (kfr_e hfr (by omega) hcl _ _ _) (by decide) _ _) (kMs_a hm1 (by decide) rfl (kMw_s hm1.2.2.2.2.2.2.2.2.2.2 (kwv_0 rfl).symm))
end GM16
