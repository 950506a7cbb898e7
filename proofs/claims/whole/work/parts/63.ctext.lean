-- deps: 37 38 39 43 44 45 49 50 51 52 59 60 61 62
/-! ===== the class: lines, the text ===== -/
/-- what reading into rules e leaves alone -/
def cfT (e : Nat) (w a w' a' : Nat → Nat → Int32) : Prop := (∀ j, j ≠ 32 → j ≠ 33 → j ≠ 22 + 5 * e → w' j = w j) ∧ gag [23 + 5 * e, 24 + 5 * e, 25 + 5 * e] a a'
theorem cfT_rf {e : Nat} {w a : Nat → Nat → Int32} : cfT e w a w a := ⟨fun _ _ _ _ => rfl, gag_rf⟩
theorem cfT_tr {e : Nat} {w a w1 a1 w2 a2 : Nat → Nat → Int32} (h : cfT e w a w1 a1) (k : cfT e w1 a1 w2 a2) : cfT e w a w2 a2 := ⟨fun j h1 h2 h3 => (k.1 j h1 h2 h3).trans (h.1 j h1 h2 h3), gag_tr h.2 k.2⟩
theorem cfT_p {e base : Nat} {w a w' a' : Nat → Nat → Int32} (h : cfp e base w a w' a') : cfT e w a w' a' := ⟨h.1, gag_sub h.2.2.1 (by simp)⟩
theorem cTap_cfT {e len : Nat} {f : Nat → Nat} {w0 a0 w a : Nat → Nat → Int32} (he : e < 2) (ht : cTap w0 a0 f len) (hf : cfT e w0 a0 w a) : cTap w a f len := ⟨by rw [hf.1 20 (by decide) (by decide) (by omega)]; exact ht.1, ht.2.1, fun i hi => by rw [hf.2 21 (by simp; omega)]; exact ht.2.2 i hi⟩
/-- at the beginning of a line -/
def kPl (w a : Nat → Nat → Int32) (f : Nat → Nat) (len e : Nat) (ts : List kTok) (ls : kLs) : Prop := kPp w a f len e (klen ls) ts [] ∧ w (22 + 5 * e) 5 = nI ls.length ∧ cLn a e 0 0 ls
section GC13
variable {w a : Nat → Nat → Int32} {b : Nat → Nat → Int64} {r : Nat → Nat → Nat} {q : Nat → Nat → Option Nat} {y : gH} {n u : Nat} {d : Nat} {f : Nat → Nat} {len e : Nat} {ts : List kTok} {ls : kLs}
theorem c_endLine (he : e < 2) {l0 s0 : Nat} (hl : w (22 + 5 * e) 5 = nI l0) (hl16 : l0 < 16) (hs : w (22 + 5 * e) 4 = nI s0) (v : Int32) : gE d 37 [.ref (22 + 5 * e), .int v] (n, u, HP w a b r q y) (fun v' S' => v' = none ∧ S' = (n, u, HP (upd2 w (22 + 5 * e) 5 (nI (l0 + 1))) (upd2 (upd2 a (25 + 5 * e) l0 v) (24 + 5 * e) l0 (nI s0)) b r q y)) := by
  have hk : gMT[37]? = some gro_37 := rfl
  refine r_in hk [some (.ref (22 + 5 * e)), some (.int v)] (Nat.le_of_ble_eq_true rfl) rfl ?_
  have e1 : w (22 + 5 * e) 5 + 1 = nI (l0 + 1) := by rw [hl]; exact nI_1 l0
  refine r_step hk rfl rfl rfl ?_
  refine r_getRu hk rfl he rfl ?_
  iterate 2 refine r_step hk rfl rfl rfl ?_
  refine r_ge (fun hq9 => absurd hq9 (show ¬ (16 : Int32) ≤ w (22 + 5 * e) 5 by rw [hl]; exact nI_ge (b := 16) hl16 (by decide))) (fun _ => ?_)
  refine r_step hk rfl rfl rfl ?_
  refine r_getRA hk rfl he rfl ?_
  refine r_step hk rfl rfl rfl ?_
  refine r_getRu hk rfl he rfl ?_
  refine r_step hk rfl rfl rfl ?_
  refine r_is hk l0 rfl (HP_rw he) (HP_rw he).symm hl hl16 rfl (Nat.ble_eq.mpr (by omega)) ?_
  refine r_step hk rfl rfl rfl ?_
  refine r_getRA hk rfl he rfl ?_
  refine r_step hk rfl rfl rfl ?_
  refine r_getRu hk rfl he rfl ?_
  refine r_step hk rfl rfl rfl ?_
  refine r_getRu hk rfl he rfl ?_
  rw [hs]
  refine r_is hk l0 rfl (HP_re he) (HP_re he).symm hl hl16 rfl (Nat.ble_eq.mpr (by omega)) ?_
  iterate 2 refine r_step hk rfl rfl rfl ?_
  refine r_getRu hk rfl he rfl ?_
  iterate 2 refine r_step hk rfl rfl rfl ?_
  rw [e1]
  refine r_putRu hk rfl he rfl ?_
  refine r_ret hk rfl rfl ?_
  exact ⟨rfl, rfl⟩
theorem cfT_end {w1 a1 : Nat → Nat → Int32} {e i : Nat} (v v1 v2 : Int32) (k : Nat) : cfT e w1 a1 (upd2 w1 (22 + 5 * e) 5 v) (upd2 (upd2 a1 (25 + 5 * e) i v1) (24 + 5 * e) k v2) := ⟨fun j _ _ h3 => upd2_row _ _ _ _ h3, gag_up (gag_up gag_rf (by simp)) (by simp)⟩
theorem kPl_end (he : e < 2) {w1 a1 : Nat → Nat → Int32} {ts1 : List kTok} {cs1 : List Nat} {wy : Nat} (hf1 : cfp e (klen ls) w a w1 a1) (hp1 : kPp w1 a1 f len e (klen ls) ts1 cs1) (hLn : cLn a e 0 0 ls) : kPl (upd2 w1 (22 + 5 * e) 5 (nI (ls.length + 1))) (upd2 (upd2 a1 (25 + 5 * e) ls.length (nI wy)) (24 + 5 * e) ls.length (nI (klen ls + cs1.length))) f len e ts1 (ls ++ [(wy, cs1)]) := by
  have hg : ∀ j, j = 24 ∨ j = 25 → a1 (j + 5 * e) = a (j + 5 * e) := fun j hj => hf1.2.2.1 _ (by simp; omega)
  have g25 := hg 25 (by omega)
  have g24 := hg 24 (by omega)
  obtain ⟨⟨p, hpp, hts, c1, c2, c3, c4⟩, k1, k2, k3⟩ := hp1
  have e33 : upd2 w1 (22 + 5 * e) 5 (nI (ls.length + 1)) 33 = w1 33 := upd2_row _ _ _ _ (by omega)
  refine ⟨⟨⟨p, hpp, hts, by rw [e33]; exact c1, by rw [e33]; exact c2, by rw [e33]; exact c3, by rw [e33]; exact c4⟩, by rw [upd2_row _ _ _ _ (by omega)]; exact k1, ?_, trivial⟩, by rw [upd2_same]; simp, ?_⟩
  · rw [upd2_col _ _ _ _ (by decide), k2, klen_app]; simp [klen]
  · refine cLn_app ls 0 0 (cLn_cg ls 0 0 (fun j _ hj => ?_) (fun j _ hj => ?_) hLn) ?_ ?_ ?_
    · rw [upd2_row _ _ _ _ (by omega : 25 + 5 * e ≠ 24 + 5 * e), upd2_at, if_neg (by omega), upd2_at, if_neg (by omega), upd2_row _ _ _ _ (by omega : 24 + 5 * e ≠ 25 + 5 * e), g25, g24]; exact ⟨rfl, rfl⟩
    · rw [upd2_row _ _ _ _ (by omega), upd2_row _ _ _ _ (by omega)]; exact hf1.2.2.2 j (by omega)
    · rw [upd2_row _ _ _ _ (by omega : 25 + 5 * e ≠ 24 + 5 * e), Nat.zero_add, upd2_same]
    · rw [Nat.zero_add, upd2_same, Nat.zero_add]
    · rw [upd2_row _ _ _ _ (by omega), upd2_row _ _ _ _ (by omega), Nat.zero_add]; exact k3
def kQL (n u : Nat) (b : Nat → Nat → Int64) (r : Nat → Nat → Nat) (q : Nat → Nat → Option Nat) (y : gH) (f : Nat → Nat) (len e : Nat) (ts : List kTok) (ls : kLs) (w a : Nat → Nat → Int32) : Option Value → gS → Prop := fun v S' => ∃ w' a', cfT e w a w' a' ∧ S' = (n, u, HP w' a' b r q y) ∧ ((v = some (.int 1) ∧ ∃ ts' ls', ls'.length = ls.length + 1 ∧ kR (kT ts ls) (kT ts' ls') ∧ kPl w' a' f len e ts' ls') ∨ (v = some (.int 0) ∧ ∃ g, 1 ≤ g ∧ g < 10000 ∧ w' 32 2 = nI g ∧ kR (kT ts ls) (kF g)))
theorem c_readLine (hd : 40 ≤ d) (he : e < 2) (hr : r 32 1 = 22 + 5 * e) (ht : cTap w a f len) (hin : kinv 601 (kT ts ls)) (hne : (khd ts).1 ≠ 301) (h : kPl w a f len e ts ls) : gE d 25 [.ref 32] (n, u, HP w a b r q y) (kQL n u b r q y f len e ts ls w a) := by
  have hk : gMT[25]? = some gro_25 := rfl
  refine r_inQ hk [some (.ref 32), none] (Nat.le_of_ble_eq_true rfl) rfl ?_
  intro Q hQ
  obtain ⟨hp, hl5, hLn⟩ := h
  obtain ⟨t1, t2, t3, t4, t5⟩ := kPp_tok hp ht
  have hin0 := hin
  obtain ⟨j1, j2, j3⟩ := hin
  have hl16 := j1.1
  have kst : kstep (kT ts ls) = if (khd ts).1 = 301 then kE ls else if ¬ (200 ≤ (khd ts).1 ∧ (khd ts).1 < 204) then kfl 1 ts else if ls.length = 16 then kfl 5 ts else if ¬ (khd ts.tail).1 = 204 then kfl 1 ts.tail else kA [(0, 0, 0)] ts.tail.tail [] ls ((khd ts).1 - 199) := rfl
  rw [if_neg hne] at kst
  by_cases hwy : 200 ≤ (khd ts).1 ∧ (khd ts).1 < 204
  · rw [if_neg (not_not_intro hwy)] at kst
    by_cases h16 : ls.length = 16
    · rw [if_pos h16] at kst
      iterate 2 refine r_step hk rfl rfl rfl ?_
      refine r_callV hk [.ref 33] [] rfl rfl rfl rfl rfl rfl rfl (by omega) (c_isWay t1 t2) ?_
      rintro _ _ ⟨⟨hs, rfl⟩ | ⟨hs, rfl⟩, rfl⟩
      · refine r_step hk rfl rfl rfl ?_
        refine r_ne (fun _ => ?_) (fun hq9 => absurd hq9 (by decide))
        refine r_step hk rfl rfl rfl ?_
        refine r_step hk rfl rfl rfl ?_
        rw [hr]
        refine r_getRu hk rfl he rfl ?_
        iterate 2 refine r_step hk rfl rfl rfl ?_
        refine r_lt (fun hq9 => absurd hq9 (show ¬ w (22 + 5 * e) 5 < 16 by rw [hl5, h16]; decide)) (fun _ => ?_)
        iterate 2 refine r_step hk rfl rfl rfl ?_
        refine r_callV hk [.ref 32, .int 5] [] rfl rfl rfl rfl rfl rfl rfl (by omega) (c_wrong (k := 5) t3) ?_
        rintro _ _ ⟨rfl, rfl⟩
        refine r_iret hk rfl (Or.inl rfl) ?_
        exact hQ _ _ ⟨_, a, cfT_p (base := 0) (cfp_32 he _ _), rfl, Or.inr ⟨rfl, 5 + 16 * (khd ts).2.2, by omega, by omega, upd2_same _ _ _ _, kR_end (kR_rf _) kst⟩⟩
      · exact absurd hwy hs
    · rw [if_neg h16] at kst
      have hX : kCx w a r f len e (klen ls) (kT ts ls) ls := ⟨ht, he, hr, hin0, rfl⟩
      have hts2 := kTsok_tl j2 hne
      have hfin : ∀ (w1 a1 : Nat → Nat → Int32) (ts1 : List kTok) (cs1 : List Nat) (v1 : Int32), v1 = nI ((khd ts).1 - 199) → cfp e (klen ls) w a w1 a1 → kPp w1 a1 f len e (klen ls) ts1 cs1 → kR (kT ts ls) (kT ts1 (ls ++ [((khd ts).1 - 199, cs1)])) → gX d 25 78 [some (.ref 32), some (.int v1)] [] (n, u, HP w1 a1 b r q y) Q := by
        intro w1 a1 ts1 cs1 v1 hv1 hf1 hp1 hR1
        subst hv1
        have h5 : w1 (22 + 5 * e) 5 = nI ls.length := hf1.2.1.trans hl5
        have hg : ∀ j, j = 24 ∨ j = 25 → a1 (j + 5 * e) = a (j + 5 * e) := fun j hj => hf1.2.2.1 _ (by simp; omega)
        have g25 := hg 25 (by omega)
        have g24 := hg 24 (by omega)
        refine r_step hk rfl rfl rfl ?_
        refine r_step hk rfl rfl rfl ?_
        rw [hr]
        refine r_step hk rfl rfl rfl ?_
        refine r_callV hk [.ref (22 + 5 * e), .int _] [] rfl rfl rfl rfl rfl rfl (grcv_ru he _) (by omega) (c_endLine he h5 (by omega) hp1.2.2.1 _) ?_
        rintro _ _ ⟨rfl, rfl⟩
        refine r_step hk rfl rfl rfl ?_
        refine r_iret hk rfl (Or.inr rfl) ?_
        exact hQ _ _ ⟨upd2 w1 (22 + 5 * e) 5 (nI (ls.length + 1)), upd2 (upd2 a1 (25 + 5 * e) ls.length (nI ((khd ts).1 - 199))) (24 + 5 * e) ls.length (nI (klen ls + cs1.length)), cfT_tr (cfT_p hf1) (cfT_end _ _ _ _), rfl, Or.inl ⟨rfl, ts1, ls ++ [((khd ts).1 - 199, cs1)], by simp, hR1, kPl_end he hf1 hp1 hLn⟩⟩
      have flt : ∀ (w1 a1 : Nat → Nat → Int32) (L : gL) (g : Nat), cfp e (klen ls) w a w1 a1 → 1 ≤ g → g < 10000 → w1 32 2 = nI g → kR (kT ts ls) (kF g) → gX d 25 76 L [] (n, u, HP w1 a1 b r q y) Q := by
        intro w1 a1 L g hf1 hg1 hg2 hg3 hg4
        refine r_step hk rfl rfl rfl ?_
        refine r_iret hk rfl (Or.inl rfl) ?_
        exact hQ _ _ ⟨w1, a1, cfT_p hf1, rfl, Or.inr ⟨rfl, g, hg1, hg2, hg3, hg4⟩⟩
      iterate 2 refine r_step hk rfl rfl rfl ?_
      refine r_callV hk [.ref 33] [] rfl rfl rfl rfl rfl rfl rfl (by omega) (c_isWay t1 t2) ?_
      rintro _ _ ⟨⟨hs, rfl⟩ | ⟨hs, rfl⟩, rfl⟩
      · refine r_step hk rfl rfl rfl ?_
        refine r_ne (fun _ => ?_) (fun hq9 => absurd hq9 (by decide))
        refine r_step hk rfl rfl rfl ?_
        refine r_step hk rfl rfl rfl ?_
        rw [hr]
        refine r_getRu hk rfl he rfl ?_
        iterate 2 refine r_step hk rfl rfl rfl ?_
        refine r_lt (fun _ => ?_) (fun hq9 => absurd (show w (22 + 5 * e) 5 < 16 by rw [hl5]; exact nI_lt (b := 16) (by omega) (by decide)) hq9)
        iterate 2 refine r_step hk rfl rfl rfl ?_
        refine r_callV hk [.ref 33] [] rfl rfl rfl rfl rfl rfl rfl (by omega) (c_wayTold t1 hwy.1) ?_
        rintro _ _ ⟨rfl, rfl⟩
        iterate 3 refine r_step hk rfl rfl rfl ?_
        refine r_callV hk [.ref 33] [] rfl rfl rfl rfl rfl rfl rfl (by omega) (c_pnext (by omega) he ht hp hne) ?_
        rintro _ _ ⟨rfl, w2, hf2, hp2, rfl⟩
        have hT2 := cTap_cfp he ht hf2
        obtain ⟨s1, s2, s3, s4, s5⟩ := kPp_tok hp2 hT2
        iterate 2 refine r_step hk rfl rfl rfl ?_
        refine r_callV hk [.ref 32, .int 204] [] rfl rfl rfl rfl rfl rfl rfl (by omega) (c_take (c := 204) (by omega) he hT2 hp2 (by omega)) ?_
        rintro _ _ (⟨rfl, h204, w4, hf4, hp4, rfl⟩ | ⟨rfl, h204, rfl⟩)
        · rw [if_neg (not_not_intro h204)] at kst
          refine r_step hk rfl rfl rfl ?_
          refine r_eq (fun hq9 => absurd hq9 (by decide)) (fun _ => ?_)
          iterate 2 refine r_step hk rfl rfl rfl ?_
          refine r_callV hk [.ref 32, .int 1] [] rfl rfl rfl rfl rfl rfl rfl (by omega) (c_tests_all (wy := (khd ts).1 - 199) hX 5 1 rfl (d - 1) w4 a ts.tail.tail [] [] (by omega) rfl (kR_end (kR_rf _) kst) (cfp_tr hf2 hf4) hp4) ?_
          rintro _ _ ⟨w5, a5, hf5, rfl, ⟨rfl, ts5, cs5, ⟨hl9, hn5, hR5⟩, hp5⟩ | ⟨rfl, g, hg1, hg2, hg3, hg4⟩⟩
          · have hT5 := cTap_cfp he ht hf5
            refine r_step hk rfl rfl rfl ?_
            refine r_eq (fun hq9 => absurd hq9 (by decide)) (fun _ => ?_)
            iterate 2 refine r_step hk rfl rfl rfl ?_
            have kst5 : kstep (kD [(0, 0, 0)] ts5 cs5 ls ((khd ts).1 - 199)) = kX ts5 cs5 ls ((khd ts).1 - 199) := (by rw [kD_st, if_neg (by decide), if_neg hn5, if_pos rfl])
            have hRX := kR_end hR5 kst5
            have kst6 : kstep (kX ts5 cs5 ls ((khd ts).1 - 199)) = if (khd ts5).1 = 59 then kT ts5.tail (ls ++ [((khd ts).1 - 199, cs5)]) else kfl 1 ts5 := rfl
            obtain ⟨u1, u2, u3, u4, u5⟩ := kPp_tok hp5 hT5
            refine r_callV hk [.ref 32, .int 59] [] rfl rfl rfl rfl rfl rfl rfl (by omega) (c_take (c := 59) (by omega) he hT5 hp5 (by omega)) ?_
            rintro _ _ (⟨rfl, h59, w6, hf6, hp6, rfl⟩ | ⟨rfl, h59, rfl⟩)
            · rw [if_pos h59] at kst6
              refine r_step hk rfl rfl rfl ?_
              refine r_ne (fun _ => ?_) (fun hq9 => absurd hq9 (by decide))
              exact hfin w6 a5 ts5.tail cs5 _ rfl (cfp_tr hf5 hf6) hp6 (kR_end hRX kst6)
            · rw [if_neg h59] at kst6
              refine r_step hk rfl rfl rfl ?_
              refine r_ne (fun hq9 => absurd (by decide) hq9) (fun _ => ?_)
              first | exact flt _ a5 _ (1 + 16 * (khd ts5).2.2) (cfp_tr hf5 (cfp_32 he _ _)) (by omega) (by omega) (upd2_same _ _ _ _) (kR_end hRX kst6) | exact flt w5 a5 _ g hf5 hg1 hg2 hg3 hg4 | exact flt _ a _ (1 + 16 * (khd ts.tail).2.2) (cfp_tr hf2 (cfp_32 he _ _)) (by omega) (by omega) (upd2_same _ _ _ _) (kR_end (kR_rf _) kst)
          · refine r_step hk rfl rfl rfl ?_
            refine r_eq (fun _ => ?_) (fun hq9 => absurd (by decide) hq9)
            first | exact flt _ a5 _ (1 + 16 * (khd ts5).2.2) (cfp_tr hf5 (cfp_32 he _ _)) (by omega) (by omega) (upd2_same _ _ _ _) (kR_end hRX kst6) | exact flt w5 a5 _ g hf5 hg1 hg2 hg3 hg4 | exact flt _ a _ (1 + 16 * (khd ts.tail).2.2) (cfp_tr hf2 (cfp_32 he _ _)) (by omega) (by omega) (upd2_same _ _ _ _) (kR_end (kR_rf _) kst)
        · rw [if_pos h204] at kst
          refine r_step hk rfl rfl rfl ?_
          refine r_eq (fun _ => ?_) (fun hq9 => absurd (by decide) hq9)
          first | exact flt _ a5 _ (1 + 16 * (khd ts5).2.2) (cfp_tr hf5 (cfp_32 he _ _)) (by omega) (by omega) (upd2_same _ _ _ _) (kR_end hRX kst6) | exact flt w5 a5 _ g hf5 hg1 hg2 hg3 hg4 | exact flt _ a _ (1 + 16 * (khd ts.tail).2.2) (cfp_tr hf2 (cfp_32 he _ _)) (by omega) (by omega) (upd2_same _ _ _ _) (kR_end (kR_rf _) kst)
      · exact absurd hwy hs
  · rw [if_pos hwy] at kst
    iterate 2 refine r_step hk rfl rfl rfl ?_
    refine r_callV hk [.ref 33] [] rfl rfl rfl rfl rfl rfl rfl (by omega) (c_isWay t1 t2) ?_
    rintro _ _ ⟨⟨hs, rfl⟩ | ⟨hs, rfl⟩, rfl⟩
    · exact absurd hs hwy
    · refine r_step hk rfl rfl rfl ?_
      refine r_ne (fun hq9 => absurd (by decide) hq9) (fun _ => ?_)
      iterate 2 refine r_step hk rfl rfl rfl ?_
      refine r_callV hk [.ref 32, .int 1] [] rfl rfl rfl rfl rfl rfl rfl (by omega) (c_wrong (k := 1) t3) ?_
      rintro _ _ ⟨rfl, rfl⟩
      refine r_iret hk rfl (Or.inl rfl) ?_
      exact hQ _ _ ⟨_, a, cfT_p (base := 0) (cfp_32 he _ _), rfl, Or.inr ⟨rfl, 1 + 16 * (khd ts).2.2, by omega, by omega, upd2_same _ _ _ _, kR_end (kR_rf _) kst⟩⟩
end GC13
