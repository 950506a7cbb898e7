-- deps: 63
/-! ===== the class: reading a tape into rules, the text ===== -/
section GC14
variable {w a : Nat → Nat → Int32} {b : Nat → Nat → Int64} {r : Nat → Nat → Nat} {q : Nat → Nat → Option Nat} {y : gH} {n u : Nat} {d : Nat} {f : Nat → Nat} {len e : Nat}
theorem c_clear (he : e < 2) : gE d 17 [.ref (22 + 5 * e)] (n, u, HP w a b r q y) (fun v S' => v = none ∧ S' = (n, u, HP (upd2 (upd2 w (22 + 5 * e) 4 0) (22 + 5 * e) 5 0) a b r q y)) := by
  have hk : gMT[17]? = some gro_17 := rfl
  refine r_in hk [some (.ref (22 + 5 * e))] (Nat.le_of_ble_eq_true rfl) rfl ?_
  iterate 2 refine r_step hk rfl rfl rfl ?_
  refine r_putRu hk rfl he rfl ?_
  iterate 2 refine r_step hk rfl rfl rfl ?_
  refine r_putRu hk rfl he rfl ?_
  refine r_ret hk rfl rfl ?_
  exact ⟨rfl, rfl⟩
theorem c_begin (hd : 14 ≤ d) (ht : cTap w a f len) : gE d 18 [.ref 33] (n, u, HP w a b r q y) (fun v S' => v = none ∧ ∃ w', cf33 w w' ∧ csc w' (ktk f len 0).1 (ktk f len 0).2 ∧ S' = (n, u, HP w' a b r q y)) := by
  have hk : gMT[18]? = some gro_18 := rfl
  refine r_in hk [some (.ref 33)] (Nat.le_of_ble_eq_true rfl) rfl ?_
  iterate 2 refine r_step hk rfl rfl rfl ?_
  refine r_putI hk rfl rfl rfl rfl ?_
  refine r_step hk rfl rfl rfl ?_
  refine r_callV hk [.ref 33] [] rfl rfl rfl rfl rfl rfl rfl (by omega) (c_next (p := 0) (by omega) (cTap_w ht (upd2_row _ _ _ _ (by decide))) (by rw [upd2_same]; rfl) (Nat.zero_le _)) ?_
  rintro _ _ ⟨rfl, w2, hf2, hc2, rfl⟩
  refine r_ret hk rfl rfl ?_
  exact ⟨rfl, w2, fun j hj => (hf2 j hj).trans (upd2_row _ _ _ _ hj), hc2, rfl⟩
theorem c_readInto (hd : 42 ≤ d) (he : e < 2) (ht : cTap w a f len) : gE d 16 [.ref 32, .ref (22 + 5 * e)] (n, u, HP w a b r q y) (fun v S' => ∃ w' a', cfT e w a w' a' ∧ S' = (n, u, HP w' a' b (upd2 r 32 1 (22 + 5 * e)) q y) ∧ ((∃ ls, kR (kT (ktl f len 0) []) (kE ls) ∧ v = some (.int 0) ∧ cTx w' a' e ls) ∨ (∃ g, 1 ≤ g ∧ g < 10000 ∧ kR (kT (ktl f len 0) []) (kF g) ∧ v = some (.int (nI g))))) := by
  have hk : gMT[16]? = some gro_16 := rfl
  refine r_inQ hk [some (.ref 32), some (.ref (22 + 5 * e)), none] (Nat.le_of_ble_eq_true rfl) rfl ?_
  intro Q hQ
  obtain ⟨hok, hlen⟩ := ktl_ne (f := f) (len := len) (p := 0) (Nat.zero_le _)
  have hl6 := ht.2.1
  have hin0 : kinv 601 (kT (ktl f len 0) []) := ⟨⟨Nat.zero_le _, fun l hl => by cases hl⟩, hok, by simp [klen]; omega⟩
  have hr1 : upd2 r 32 1 (22 + 5 * e) 32 1 = 22 + 5 * e := upd2_same _ _ _ _
  have loop : ∀ (k : Nat) (w1 a1 : Nat → Nat → Int32) (ts : List kTok) (ls : kLs) (z : Int32), 17 - ls.length ≤ k → z = nI ls.length → cfT e w a w1 a1 → kR (kT (ktl f len 0) []) (kT ts ls) → kPl w1 a1 f len e ts ls → gX d 16 26 [some (.ref 32), some (.ref (22 + 5 * e)), some (.int z)] [] (n, u, HP w1 a1 b (upd2 r 32 1 (22 + 5 * e)) q y) Q := by
    intro k
    induction k with
    | zero =>
      intro w1 a1 ts ls z hk0 hz hfr hR hm
      have := (kinv_R hin0 hR).1.1
      omega
    | succ k ih =>
      intro w1 a1 ts ls z hk0 hz hfr hR hm
      have hinL := kinv_R hin0 hR
      have h16 := hinL.1.1
      have hT1 := cTap_cfT he ht hfr
      have hm0 := hm
      obtain ⟨hp, h5, hLn⟩ := hm
      obtain ⟨t1, t2, t3, t4, t5⟩ := kPp_tok hp hT1
      have hz16 : ¬ (16 : Int32) < z := by
        rw [hz]
        exact fun h => absurd ((nI_ltI (a := 16) (b := ls.length) (by omega) (by omega)).mp h) (by omega)
      have e301 : w1 33 1 = 301 ↔ (khd ts).1 = 301 := by rw [t1]; exact nI_eq (b := 301) (by omega) (by omega)
      by_cases hE : (khd ts).1 = 301
      · have kst : kstep (kT ts ls) = kE ls := if_pos hE
        have h0 : w1 32 2 = 0 := hp.2.1
        iterate 3 refine r_step hk rfl rfl rfl ?_
        refine r_gt (fun hq9 => absurd hq9 hz16) (fun _ => ?_)
        iterate 5 refine r_step hk rfl rfl rfl ?_
        refine r_eq (fun _ => ?_) (fun hq9 => absurd (e301.mpr hE) hq9)
        iterate 2 refine r_step hk rfl rfl rfl ?_
        refine r_iret hk rfl trivial ?_
        rw [h0]
        exact hQ _ _ ⟨w1, a1, hfr, rfl, Or.inl ⟨ls, kR_end hR kst, rfl, ⟨h5, hinL.1, hLn, by have := hinL.2.2; have := klen_tl hinL.2.1; omega⟩⟩⟩
      · skip
        iterate 3 refine r_step hk rfl rfl rfl ?_
        refine r_gt (fun hq9 => absurd hq9 hz16) (fun _ => ?_)
        iterate 5 refine r_step hk rfl rfl rfl ?_
        refine r_eq (fun hq9 => absurd hq9 (fun h => hE (e301.mp h))) (fun _ => ?_)
        refine r_step hk rfl rfl rfl ?_
        refine r_callV hk [.ref 32] [] rfl rfl rfl rfl rfl rfl rfl (by omega) (c_readLine (by omega) he hr1 hT1 hinL hE hm0) ?_
        rintro _ _ ⟨w2, a2, hf2, rfl, ⟨rfl, ts2, ls2, hl2, hR2, hm2⟩ | ⟨rfl, g, hg1, hg2, hg3, hg4⟩⟩
        · refine r_step hk rfl rfl rfl ?_
          refine r_ne (fun _ => ?_) (fun hq9 => absurd hq9 (by decide))
          iterate 2 refine r_step hk rfl rfl rfl ?_
          subst hz
          rw [nI_1]
          exact ih w2 a2 ts2 ls2 _ (by omega) (by rw [hl2]) (cfT_tr hfr hf2) (kR_tr hR hR2) hm2
        · refine r_step hk rfl rfl rfl ?_
          refine r_ne (fun hq9 => absurd (by decide) hq9) (fun _ => ?_)
          iterate 2 refine r_step hk rfl rfl rfl ?_
          refine r_iret hk rfl trivial ?_
          rw [hg3]
          exact hQ _ _ ⟨w2, a2, cfT_tr hfr hf2, rfl, Or.inr ⟨g, hg1, hg2, kR_tr hR hg4, rfl⟩⟩
  iterate 2 refine r_step hk rfl rfl rfl ?_
  refine r_putR hk rfl rfl rfl rfl ?_
  refine r_step hk rfl rfl rfl ?_
  refine r_step hk rfl rfl rfl ?_
  rw [hr1]
  refine r_callV hk [.ref (22 + 5 * e)] [] rfl rfl rfl rfl rfl rfl (grcv_ru he _) (by omega) (c_clear he) ?_
  rintro _ _ ⟨rfl, rfl⟩
  iterate 2 refine r_step hk rfl rfl rfl ?_
  refine r_putI hk rfl rfl rfl rfl ?_
  iterate 2 refine r_step hk rfl rfl rfl ?_
  refine r_callV hk [.ref 33] [] rfl rfl rfl rfl rfl rfl rfl (by omega) (c_begin (f := f) (len := len) (by omega) ⟨by rw [upd2_row _ _ _ _ (by decide), upd2_row _ _ _ _ (by omega), upd2_row _ _ _ _ (by omega)]; exact ht.1, ht.2⟩) ?_
  rintro _ _ ⟨rfl, w2, hf2, hc2, rfl⟩
  iterate 2 refine r_step hk rfl rfl rfl ?_
  refine loop 17 w2 a (ktl f len 0) [] 0 (by simp) rfl ⟨fun j h1 h2 h3 => ?_, gag_rf⟩ (kR_rf _) ⟨⟨⟨0, Nat.zero_le _, rfl, hc2⟩, ?_, ?_, trivial⟩, ?_, trivial⟩
  rw [hf2 j h2, upd2_row _ _ _ _ h1, upd2_row _ _ _ _ h3, upd2_row _ _ _ _ h3]
  rw [hf2 32 (by decide), upd2_same]
  rw [hf2 (22 + 5 * e) (by omega), upd2_row _ _ _ _ (by omega), upd2_col _ _ _ _ (by decide), upd2_same]; rfl
  rw [hf2 (22 + 5 * e) (by omega), upd2_row _ _ _ _ (by omega), upd2_same]; rfl
theorem c_text (hd : 43 ≤ d) (he : e < 2) (hr8 : r 0 8 = 22 + 5 * e) (hr9 : r 0 9 = 22 + 5 * (1 - e)) (ht : cTap w a f len) {ls0 : kLs} (h0 : cTx w a e ls0) : gE d 15 [.ref 0] (n, u, HP w a b r q y) (fun v S' => ∃ w' a' r' e', e' < 2 ∧ (∀ j, j ≠ 20 → j ≠ 32 → j ≠ 33 → j ≠ 22 + 5 * (1 - e) → w' j = w j) ∧ w' 20 1 = 0 ∧ gag [23 + 5 * (1 - e), 24 + 5 * (1 - e), 25 + 5 * (1 - e)] a a' ∧ r' 0 8 = 22 + 5 * e' ∧ r' 0 9 = 22 + 5 * (1 - e') ∧ ((∃ ls, kR (kT (ktl f len 0) []) (kE ls) ∧ v = some (.int 0) ∧ cTx w' a' e' ls) ∨ (∃ g, 1 ≤ g ∧ g < 10000 ∧ kR (kT (ktl f len 0) []) (kF g) ∧ v = some (.int (nI g)) ∧ cTx w' a' e' ls0)) ∧ S' = (n, u, HP w' a' b r' q y)) := by
  have hk : gMT[15]? = some gro_15 := rfl
  refine r_inQ hk [some (.ref 0), none, none] (Nat.le_of_ble_eq_true rfl) rfl ?_
  intro Q hQ
  have he1 : 1 - e < 2 := by omega
  have q8 : ∀ x, upd2 r 32 1 x 0 8 = 22 + 5 * e := fun x => by rw [upd2_row _ _ _ _ (by decide)]; exact hr8
  have q9 : ∀ x, upd2 r 32 1 x 0 9 = 22 + 5 * (1 - e) := fun x => by rw [upd2_row _ _ _ _ (by decide)]; exact hr9
  have hfw : ∀ (w1 a1 : Nat → Nat → Int32), cfT (1 - e) w a w1 a1 → ∀ j, j ≠ 20 → j ≠ 32 → j ≠ 33 → j ≠ 22 + 5 * (1 - e) → upd2 w1 20 1 0 j = w j := fun w1 a1 hf j h1 h2 h3 h4 => by rw [upd2_row _ _ _ _ h1]; exact hf.1 j h2 h3 h4
  iterate 3 refine r_step hk rfl rfl rfl ?_
  refine r_step hk rfl rfl rfl ?_
  rw [hr9]
  refine r_callV hk [.ref 32, .ref (22 + 5 * (1 - e))] [] rfl rfl rfl rfl rfl rfl rfl (by omega) (c_readInto (by omega) he1 ht) ?_
  rintro _ _ ⟨w1, a1, hf1, rfl, ⟨ls, hR, rfl, htx⟩ | ⟨g, hg1, hg2, hR, rfl⟩⟩
  · iterate 4 refine r_step hk rfl rfl rfl ?_
    refine r_putI hk rfl rfl rfl rfl ?_
    iterate 2 refine r_step hk rfl rfl rfl ?_
    refine r_ne (fun hq9 => absurd (by decide) hq9) (fun _ => ?_)
    iterate 6 refine r_step hk rfl rfl rfl ?_
    refine r_putR hk rfl rfl rfl rfl ?_
    iterate 2 refine r_step hk rfl rfl rfl ?_
    refine r_putR hk rfl rfl rfl rfl ?_
    refine r_step hk rfl rfl rfl ?_
    refine r_iret hk rfl trivial ?_
    first | exact hQ _ _ ⟨_, a1, _, 1 - e, he1, hfw w1 a1 hf1, upd2_same _ _ _ _, hf1.2, (by rw [upd2_col _ _ _ _ (by decide), upd2_same]; exact q9 _), (by rw [upd2_same, q8]; omega), Or.inl ⟨ls, hR, rfl, ⟨(by rw [upd2_row _ _ _ _ (by omega)]; exact htx.1), htx.2⟩⟩, rfl⟩ | exact hQ _ _ ⟨_, a1, _, e, he, hfw w1 a1 hf1, upd2_same _ _ _ _, hf1.2, q8 _, q9 _, Or.inr ⟨g, hg1, hg2, hR, rfl, ⟨(by rw [hfw w1 a1 hf1 (22 + 5 * e) (by omega) (by omega) (by omega) (by omega)]; exact h0.1), (cTx_ag (w := w) hf1.2 (by simp; omega) (by simp; omega) (by simp; omega) h0).2⟩⟩, rfl⟩
  · iterate 4 refine r_step hk rfl rfl rfl ?_
    refine r_putI hk rfl rfl rfl rfl ?_
    iterate 2 refine r_step hk rfl rfl rfl ?_
    refine r_ne (fun _ => ?_) (fun hq9 => absurd hq9 (show ¬ nI g = 0 from nI_ne0 (by omega) (by omega)))
    refine r_step hk rfl rfl rfl ?_
    refine r_iret hk rfl trivial ?_
    first | exact hQ _ _ ⟨_, a1, _, 1 - e, he1, hfw w1 a1 hf1, upd2_same _ _ _ _, hf1.2, (by rw [upd2_col _ _ _ _ (by decide), upd2_same]; exact q9 _), (by rw [upd2_same, q8]; omega), Or.inl ⟨ls, hR, rfl, ⟨(by rw [upd2_row _ _ _ _ (by omega)]; exact htx.1), htx.2⟩⟩, rfl⟩ | exact hQ _ _ ⟨_, a1, _, e, he, hfw w1 a1 hf1, upd2_same _ _ _ _, hf1.2, q8 _, q9 _, Or.inr ⟨g, hg1, hg2, hR, rfl, ⟨(by rw [hfw w1 a1 hf1 (22 + 5 * e) (by omega) (by omega) (by omega) (by omega)]; exact h0.1), (cTx_ag (w := w) hf1.2 (by simp; omega) (by simp; omega) (by simp; omega) h0).2⟩⟩, rfl⟩
end GC14
