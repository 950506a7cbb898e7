-- deps: 37 38 39 50 51 52 53 54 55
/-! ===== the class: says, look, rate, relief, count, ways, helpers ===== -/
theorem gcnt_t' {p : Nat → Prop} [DecidablePred p] {t : Nat} {x : Int32} (hx : x = nI (gcnt p t)) (h : p t) : x + 1 = nI (gcnt p (t + 1)) := gcnt_t hx h
theorem gcnt_n {p : Nat → Prop} [DecidablePred p] {t : Nat} {x : Int32} (hx : x = nI (gcnt p t)) (h : ¬ p t) : x = nI (gcnt p (t + 1)) := by
  rw [← gcnt_f hx h]; exact (Int32.add_zero _).symm
theorem gsum_n {p : Nat → Prop} [DecidablePred p] {f : Nat → Int32} {t : Nat} {x : Int32} (hx : x = gsum p f t) (h : ¬ p t) : x = gsum p f (t + 1) := by
  rw [← gsum_f hx h]; exact (Int32.add_zero _).symm
theorem nI_6' (i j : Nat) : nI i * 6 + nI j = nI (6 * i + j) := by
  rw [show (6 : Int32) = nI 6 from rfl, pk_mul, nI_add, Nat.mul_comm]
section GC6
variable {w a : Nat → Nat → Int32} {b : Nat → Nat → Int64} {r : Nat → Nat → Nat} {q : Nat → Nat → Option Nat} {y : gH} {n u : Nat} {d : Nat}
variable {D : Nat → Nat} {x : Nat → Nat → Int32} {z : Nat → Nat} {o : Nat → Nat} {N : Nat} {Z : Nat → Nat → Int32}
theorem c_says (hd : 4 ≤ d) {T e : Nat} (hN : w 0 1 = nI N) (hN1 : N ≤ 100) (hT : w 0 16 = nI T) (hT1 : T < 1000) (hTs : cTs q D N o) (hkd : ∀ t, t < N → gin (Z 61 t) 8) (he : e < 2) (hr : r 0 8 = 22 + 5 * e) {ls : kLs} (hls : cTx w a e ls) (hR : cRel w a x o N Z) (v1 v2 v3 : Int32) :
    gE d 47 [.ref 0, .int v1, .int v2, .int v3] (n, u, HP w a b r q (gY D x z y)) (fun v S' => (∃ i t k j a', i < 10 ∧ t < N ∧ k < 8 ∧ 1 ≤ j ∧ j < 5 ∧ v1 = nI i ∧ v2 = nI t ∧ v3 = nI j ∧ Z 61 t = nI k ∧ gag (cXs e) (upd2 (upd2 a 35 i (a 35 i + 1)) 36 i (a 36 i + if j = gway (gfa Z T t k) ls then 1 else 0)) a' ∧ v = some (.int (if j = gway (gfa Z T t k) ls then 1 else 0)) ∧ S' = (n, u, HP w a' b r q (gY D x z y)))
      ∨ (¬ (gin v1 10 ∧ gin v2 N ∧ ∃ j, 1 ≤ j ∧ j < 5 ∧ v3 = nI j) ∧ v = some (.int (-1)) ∧ S' = (n, u, HP w a b r q (gY D x z y)))) := by
  have hk : gMT[47]? = some gro_47 := rfl
  refine r_inQ hk [some (.ref 0), some (.int v1), some (.int v2), some (.int v3)] (Nat.le_of_ble_eq_true rfl) rfl ?_
  intro Q hQ
  have key1 : v3 < 1 → ¬ ∃ j, 1 ≤ j ∧ j < 5 ∧ v3 = nI j := by
    rintro h ⟨j, h1, h2, rfl⟩
    have := (nI_ltI (a := j) (b := 1) (by omega) (by omega)).mp h
    omega
  have key2 : ¬ v3 ≤ (4 : Int32) → ¬ ∃ j, 1 ≤ j ∧ j < 5 ∧ v3 = nI j := by
    rintro h ⟨j, h1, h2, rfl⟩
    exact h ((nI_leI (a := j) (b := 4) (by omega) (by omega)).mpr (by omega))
  have key3 : ¬ v3 < 1 → v3 ≤ (4 : Int32) → ∃ j, 1 ≤ j ∧ j < 5 ∧ v3 = nI j := by
    intro h1 h2
    have h0 : ¬ v3 < 0 := fun h => h1 (by
      have e1 : v3.toInt < (0 : Int32).toInt := Int32.lt_iff_toInt_lt.mp h
      refine Int32.lt_iff_toInt_lt.mpr ?_
      have e2 : (0 : Int32).toInt = 0 := by decide
      have e3 : (1 : Int32).toInt = 1 := by decide
      omega)
    obtain ⟨j, hj, rfl⟩ := gin_of' (M := 4) h0 (Int32.not_lt.mpr h2) (by decide)
    refine ⟨j, ?_, hj, rfl⟩
    rcases Nat.lt_or_ge j 1 with h | h
    · exact absurd ((nI_ltI (a := j) (b := 1) (by omega) (by omega)).mpr h) h1
    · exact h
  have yes : ∀ i t k j, i < 10 → t < N → k < 8 → 1 ≤ j → j < 5 → v1 = nI i → v2 = nI t → v3 = nI j → Z 61 t = nI k → gX d 47 32 [some (.ref 0), some (.int v1), some (.int v2), some (.int v3)] [] (n, u, HP w a b r q (gY D x z y)) Q := by
    intro i t k j hi ht hk8 hj1 hj ev1 ev2 ev3 ek
    have hfa := cfa_gfa hR T t k
    have hag35 : gag [35] a (upd2 a 35 i (a 35 i + 1)) := gag_up gag_rf (by decide)
    have hn : ∀ jj, jj = 23 ∨ jj = 24 ∨ jj = 25 → jj + 5 * e ∉ [35] := by
      intro jj hj hm
      simp only [List.mem_singleton] at hm
      omega
    have hls2 : cTx w (upd2 a 35 i (a 35 i + 1)) e ls := cTx_ag hag35 (hn 23 (by omega)) (hn 24 (by omega)) (hn 25 (by omega)) hls
    have hfa2 : cfa x (upd2 a 35 i (a 35 i + 1)) T (o t) k = gfa Z T t k := hfa
    have hwr : gway (gfa Z T t k) ls ≤ 4 := by
      have : ∀ (ls : kLs), (∀ l ∈ ls, l.1 ≤ 4) → gway (gfa Z T t k) ls ≤ 4 := by
        intro ls
        induction ls with
        | nil => intro _; simp [gway]
        | cons l rs ih =>
          intro h
          obtain ⟨z, p⟩ := l
          simp only [gway]
          split
          · exact ih (fun l hl => h l (List.mem_cons_of_mem _ hl))
          · exact h (z, p) (by simp)
      exact this ls (fun l hl => (hls.2.1.2 l hl).2.1)
    have hq : nI (gway (gfa Z T t k) ls) = v3 ↔ j = gway (gfa Z T t k) ls := by rw [ev3, nI_eq (by omega) (by omega)]; exact eq_comm
    have e36 : ∀ a1 : Nat → Nat → Int32, gag (cXs e) (upd2 a 35 i (a 35 i + 1)) a1 → a1 36 i = a 36 i := by
      intro a1 h1
      rw [h1 36 (cXs_n (by decide) (by omega)), upd2_row _ _ _ _ (by decide)]
    iterate 4 refine r_step hk rfl rfl rfl ?_
    refine r_ia hk (i) rfl rfl ev1 hi rfl ?_
    iterate 2 refine r_step hk rfl rfl rfl ?_
    refine r_is hk (i) rfl rfl rfl ev1 hi rfl rfl ?_
    iterate 4 refine r_step hk rfl rfl rfl ?_
    refine r_qa hk (t) (o t) rfl rfl ev2 (by omega) rfl (hTs.1 t ht).1 ?_
    refine r_callV hk [.ref 0, .ref (o t)] [] rfl rfl rfl rfl rfl rfl rfl (by omega) (c_wayByText (a := upd2 a 35 i (a 35 i + 1)) (by omega) hT hT1 (hTs.1 t ht).2 hk8 (by rw [hR.1 1 (by decide) t]; exact ek) he hr hls2) ?_
    rw [hfa2]
    rintro _ _ ⟨a1, hag, rfl, rfl⟩
    iterate 2 refine r_step hk rfl rfl rfl ?_
    refine r_eq (fun h53 => ?_) (fun h53 => ?_)
    · iterate 4 refine r_step hk rfl rfl rfl ?_
      refine r_ia hk (i) rfl rfl ev1 hi rfl ?_
      iterate 2 refine r_step hk rfl rfl rfl ?_
      refine r_is hk (i) rfl rfl rfl ev1 hi rfl rfl ?_
      refine r_step hk rfl rfl rfl ?_
      refine r_iret hk rfl trivial ?_
      first | (refine hQ _ _ (Or.inl ⟨i, t, k, j, _, hi, ht, hk8, hj1, hj, ev1, ev2, ev3, ek, ?_, ?_, rfl⟩); (rw [if_pos (hq.mp h53), e36 a1 hag]; exact gag_cg hag _ _ _); rw [if_pos (hq.mp h53)]) | (refine hQ _ _ (Or.inl ⟨i, t, k, j, a1, hi, ht, hk8, hj1, hj, ev1, ev2, ev3, ek, ?_, ?_, rfl⟩); (rw [if_neg (mt hq.mpr h53), Int32.add_zero, upd2_id (f := upd2 a 35 i (a 35 i + 1)) (j := 36) (s := i) (x := a 36 i) rfl]; exact hag); rw [if_neg (mt hq.mpr h53)])
    · refine r_step hk rfl rfl rfl ?_
      refine r_iret hk rfl trivial ?_
      first | (refine hQ _ _ (Or.inl ⟨i, t, k, j, _, hi, ht, hk8, hj1, hj, ev1, ev2, ev3, ek, ?_, ?_, rfl⟩); (rw [if_pos (hq.mp h53), e36 a1 hag]; exact gag_cg hag _ _ _); rw [if_pos (hq.mp h53)]) | (refine hQ _ _ (Or.inl ⟨i, t, k, j, a1, hi, ht, hk8, hj1, hj, ev1, ev2, ev3, ek, ?_, ?_, rfl⟩); (rw [if_neg (mt hq.mpr h53), Int32.add_zero, upd2_id (f := upd2 a 35 i (a 35 i + 1)) (j := 36) (s := i) (x := a 36 i) rfl]; exact hag); rw [if_neg (mt hq.mpr h53)])
  iterate 2 refine r_step hk rfl rfl rfl ?_
  refine r_callS hk [.int v1, .int 10] [] rfl rfl rfl rfl rfl (by omega) (c_within _ _ v1 10 (by decide)) ?_
  rintro _ _ ⟨⟨⟨i, hi, ev1⟩, rfl⟩ | ⟨hs, rfl⟩, rfl⟩
  · refine r_step hk rfl rfl rfl ?_
    refine r_eq (fun hq9 => absurd hq9 (by decide)) (fun _ => ?_)
    iterate 3 refine r_step hk rfl rfl rfl ?_
    refine r_callS hk [.int v2, .int (w 0 1)] [] rfl rfl rfl rfl rfl (by omega) (by rw [hN]; exact c_within _ _ _ _ (by omega)) ?_
    rintro _ _ ⟨⟨⟨t, ht, ev2⟩, rfl⟩ | ⟨hs2, rfl⟩, rfl⟩
    · obtain ⟨k, hk8, ek⟩ := hkd t ht
      refine r_step hk rfl rfl rfl ?_
      refine r_eq (fun hq9 => absurd hq9 (by decide)) (fun _ => ?_)
      iterate 3 refine r_step hk rfl rfl rfl ?_
      refine r_lt (fun h22 => ?_) (fun h22 => ?_)
      · refine r_step hk rfl rfl rfl ?_
        refine r_iret hk rfl trivial ?_
        first | exact hQ _ _ (Or.inr ⟨fun h => key2 h27 h.2.2, rfl, rfl⟩) | exact hQ _ _ (Or.inr ⟨fun h => key1 h22 h.2.2, rfl, rfl⟩) | exact hQ _ _ (Or.inr ⟨fun h => hs2 h.2.1, rfl, rfl⟩) | exact hQ _ _ (Or.inr ⟨fun h => hs h.1, rfl, rfl⟩)
      · iterate 3 refine r_step hk rfl rfl rfl ?_
        refine r_le (fun h27 => ?_) (fun h27 => ?_)
        · obtain ⟨j, hj1, hj, ev3⟩ := key3 h22 h27
          exact yes i t k j hi ht hk8 hj1 hj ev1 ev2 ev3 ek
        · refine r_step hk rfl rfl rfl ?_
          refine r_iret hk rfl trivial ?_
          first | exact hQ _ _ (Or.inr ⟨fun h => key2 h27 h.2.2, rfl, rfl⟩) | exact hQ _ _ (Or.inr ⟨fun h => key1 h22 h.2.2, rfl, rfl⟩) | exact hQ _ _ (Or.inr ⟨fun h => hs2 h.2.1, rfl, rfl⟩) | exact hQ _ _ (Or.inr ⟨fun h => hs h.1, rfl, rfl⟩)
    · refine r_step hk rfl rfl rfl ?_
      refine r_eq (fun _ => ?_) (fun hq9 => absurd (by decide) hq9)
      refine r_step hk rfl rfl rfl ?_
      refine r_iret hk rfl trivial ?_
      first | exact hQ _ _ (Or.inr ⟨fun h => key2 h27 h.2.2, rfl, rfl⟩) | exact hQ _ _ (Or.inr ⟨fun h => key1 h22 h.2.2, rfl, rfl⟩) | exact hQ _ _ (Or.inr ⟨fun h => hs2 h.2.1, rfl, rfl⟩) | exact hQ _ _ (Or.inr ⟨fun h => hs h.1, rfl, rfl⟩)
  · refine r_step hk rfl rfl rfl ?_
    refine r_eq (fun _ => ?_) (fun hq9 => absurd (by decide) hq9)
    refine r_step hk rfl rfl rfl ?_
    refine r_iret hk rfl trivial ?_
    first | exact hQ _ _ (Or.inr ⟨fun h => key2 h27 h.2.2, rfl, rfl⟩) | exact hQ _ _ (Or.inr ⟨fun h => key1 h22 h.2.2, rfl, rfl⟩) | exact hQ _ _ (Or.inr ⟨fun h => hs2 h.2.1, rfl, rfl⟩) | exact hQ _ _ (Or.inr ⟨fun h => hs h.1, rfl, rfl⟩)
/-- look, where it doesn't throw -/
theorem c_look (hd : 4 ≤ d) {T e t k j : Nat} (hN : w 0 1 = nI N) (hN1 : N ≤ 100) (hT : w 0 16 = nI T) (hT1 : T < 1000) (hTs : cTs q D N o) (ht : t < N) (hk8 : k < 8) (ek : Z 61 t = nI k) (hj : j < 5) (he : e < 2) (hr : r 0 8 = 22 + 5 * e) {ls : kLs} (hls : cTx w a e ls) (hR : cRel w a x o N Z) :
    gE d 91 [.ref 0, .int (nI t), .int (nI j)] (n, u, HP w a b r q (gY D x z y)) (fun v S' => ∃ a', gag (cXs e) a a' ∧ v = some (.int (glk Z T ls t k j)) ∧ S' = (n, u, HP w a' b r q (gY D x z y))) := by
  have hk : gMT[91]? = some gro_91 := rfl
  refine r_inQ hk [some (.ref 0), some (.int (nI t)), some (.int (nI j)), none] (Nat.le_of_ble_eq_true rfl) rfl ?_
  intro Q hQ
  have ho := (hTs.1 t ht).2
  have hfa := cfa_gfa hR T t k
  have x4 := hR.1 4 (by decide) t
  have x5 := hR.1 5 (by decide) t
  have x6 := hR.1 6 (by decide) t
  have x7 := hR.1 7 (by decide) t
  have go : gX d 91 29 [some (.ref 0), some (.int (nI t)), some (.int (nI j)), none] [] (n, u, HP w a b r q (gY D x z y)) Q := by
    match j, hj with
    | 0, _ =>
      iterate 3 refine r_step hk rfl rfl rfl ?_
      refine r_qa hk (t) (o t) rfl rfl rfl (by omega) rfl (hTs.1 t ht).1 ?_
      iterate 2 refine r_step hk rfl rfl rfl ?_
      refine r_swI hk 0 rfl (by decide) (by decide) ?_
      refine r_step hk rfl rfl rfl ?_
      refine r_getT hk rfl ho rfl ?_
      refine r_iret hk rfl trivial ?_
      exact hQ _ _ ⟨a, gag_rf, congrArg (fun z => some (Value.int z)) x4, rfl⟩
    | 1, _ =>
      iterate 3 refine r_step hk rfl rfl rfl ?_
      refine r_qa hk (t) (o t) rfl rfl rfl (by omega) rfl (hTs.1 t ht).1 ?_
      iterate 2 refine r_step hk rfl rfl rfl ?_
      refine r_swI hk 1 rfl (by decide) (by decide) ?_
      refine r_step hk rfl rfl rfl ?_
      refine r_getT hk rfl ho rfl ?_
      iterate 2 refine r_step hk rfl rfl rfl ?_
      refine r_eq (fun h78 => ?_) (fun h78 => ?_)
      · refine r_step hk rfl rfl rfl ?_
        refine r_getT hk rfl ho rfl ?_
        refine r_step hk rfl rfl rfl ?_
        refine r_iret hk rfl trivial ?_
        refine hQ _ _ ⟨a, gag_rf, congrArg (fun z => some (Value.int z)) ?_, rfl⟩
        first | (refine x5.trans (if_pos ?_).symm; exact Or.inl (x4.symm.trans h78)) | (refine x5.trans (if_pos ?_).symm; exact Or.inr (Or.inl (x4.symm.trans h86))) | (refine x5.trans (if_pos ?_).symm; exact Or.inr (Or.inr (x4.symm.trans h95))) | (refine (if_neg ?_).symm; exact fun hc => hc.elim (fun h => h78 (x4.trans h)) (fun hc => hc.elim (fun h => h86 (x4.trans h)) (fun h => h95 (x4.trans h))))
      · refine r_step hk rfl rfl rfl ?_
        refine r_getT hk rfl ho rfl ?_
        iterate 2 refine r_step hk rfl rfl rfl ?_
        refine r_eq (fun h86 => ?_) (fun h86 => ?_)
        · refine r_step hk rfl rfl rfl ?_
          refine r_getT hk rfl ho rfl ?_
          refine r_step hk rfl rfl rfl ?_
          refine r_iret hk rfl trivial ?_
          refine hQ _ _ ⟨a, gag_rf, congrArg (fun z => some (Value.int z)) ?_, rfl⟩
          first | (refine x5.trans (if_pos ?_).symm; exact Or.inl (x4.symm.trans h78)) | (refine x5.trans (if_pos ?_).symm; exact Or.inr (Or.inl (x4.symm.trans h86))) | (refine x5.trans (if_pos ?_).symm; exact Or.inr (Or.inr (x4.symm.trans h95))) | (refine (if_neg ?_).symm; exact fun hc => hc.elim (fun h => h78 (x4.trans h)) (fun hc => hc.elim (fun h => h86 (x4.trans h)) (fun h => h95 (x4.trans h))))
        · refine r_step hk rfl rfl rfl ?_
          refine r_getT hk rfl ho rfl ?_
          iterate 2 refine r_step hk rfl rfl rfl ?_
          refine r_ne (fun h95 => ?_) (fun h95 => ?_)
          · refine r_step hk rfl rfl rfl ?_
            refine r_iret hk rfl trivial ?_
            refine hQ _ _ ⟨a, gag_rf, congrArg (fun z => some (Value.int z)) ?_, rfl⟩
            first | (refine x5.trans (if_pos ?_).symm; exact Or.inl (x4.symm.trans h78)) | (refine x5.trans (if_pos ?_).symm; exact Or.inr (Or.inl (x4.symm.trans h86))) | (refine x5.trans (if_pos ?_).symm; exact Or.inr (Or.inr (x4.symm.trans h95))) | (refine (if_neg ?_).symm; exact fun hc => hc.elim (fun h => h78 (x4.trans h)) (fun hc => hc.elim (fun h => h86 (x4.trans h)) (fun h => h95 (x4.trans h))))
          · refine r_step hk rfl rfl rfl ?_
            refine r_getT hk rfl ho rfl ?_
            refine r_step hk rfl rfl rfl ?_
            refine r_iret hk rfl trivial ?_
            refine hQ _ _ ⟨a, gag_rf, congrArg (fun z => some (Value.int z)) ?_, rfl⟩
            first | (refine x5.trans (if_pos ?_).symm; exact Or.inl (x4.symm.trans h78)) | (refine x5.trans (if_pos ?_).symm; exact Or.inr (Or.inl (x4.symm.trans h86))) | (refine x5.trans (if_pos ?_).symm; exact Or.inr (Or.inr (x4.symm.trans h95))) | (refine (if_neg ?_).symm; exact fun hc => hc.elim (fun h => h78 (x4.trans h)) (fun hc => hc.elim (fun h => h86 (x4.trans h)) (fun h => h95 (x4.trans h))))
    | 2, _ =>
      iterate 3 refine r_step hk rfl rfl rfl ?_
      refine r_qa hk (t) (o t) rfl rfl rfl (by omega) rfl (hTs.1 t ht).1 ?_
      iterate 2 refine r_step hk rfl rfl rfl ?_
      refine r_swI hk 2 rfl (by decide) (by decide) ?_
      refine r_step hk rfl rfl rfl ?_
      refine r_getT hk rfl ho rfl ?_
      iterate 2 refine r_step hk rfl rfl rfl ?_
      refine r_ne (fun h112 => ?_) (fun h112 => ?_)
      · refine r_step hk rfl rfl rfl ?_
        refine r_iret hk rfl trivial ?_
        refine hQ _ _ ⟨a, gag_rf, congrArg (fun z => some (Value.int z)) ?_, rfl⟩
        first | (refine x6.trans (if_pos ?_).symm; exact x4.symm.trans h112) | (refine (if_neg ?_).symm; exact fun h => h112 (x4.trans h))
      · refine r_step hk rfl rfl rfl ?_
        refine r_getT hk rfl ho rfl ?_
        refine r_step hk rfl rfl rfl ?_
        refine r_iret hk rfl trivial ?_
        refine hQ _ _ ⟨a, gag_rf, congrArg (fun z => some (Value.int z)) ?_, rfl⟩
        first | (refine x6.trans (if_pos ?_).symm; exact x4.symm.trans h112) | (refine (if_neg ?_).symm; exact fun h => h112 (x4.trans h))
    | 3, _ =>
      iterate 3 refine r_step hk rfl rfl rfl ?_
      refine r_qa hk (t) (o t) rfl rfl rfl (by omega) rfl (hTs.1 t ht).1 ?_
      iterate 2 refine r_step hk rfl rfl rfl ?_
      refine r_swI hk 3 rfl (by decide) (by decide) ?_
      refine r_step hk rfl rfl rfl ?_
      refine r_getT hk rfl ho rfl ?_
      refine r_iret hk rfl trivial ?_
      exact hQ _ _ ⟨a, gag_rf, congrArg (fun z => some (Value.int z)) x7, rfl⟩
    | 4, _ =>
      iterate 3 refine r_step hk rfl rfl rfl ?_
      refine r_qa hk (t) (o t) rfl rfl rfl (by omega) rfl (hTs.1 t ht).1 ?_
      iterate 2 refine r_step hk rfl rfl rfl ?_
      refine r_swD hk rfl (by decide) ?_
      iterate 2 refine r_step hk rfl rfl rfl ?_
      refine r_callV hk [.ref 0, .ref (o t)] [] rfl rfl rfl rfl rfl rfl rfl (by omega) (c_wayByText (by omega) hT hT1 ho hk8 (by rw [hR.1 1 (by decide) t]; exact ek) he hr hls) ?_
      rw [hfa]
      rintro _ _ ⟨a1, hag, rfl, rfl⟩
      refine r_iret hk rfl trivial ?_
      exact hQ _ _ ⟨a1, hag, rfl, rfl⟩
  iterate 3 refine r_step hk rfl rfl rfl ?_
  refine r_callS hk [.int (nI t), .int (w 0 1)] [] rfl rfl rfl rfl rfl (by omega) (by rw [hN]; exact c_within _ _ _ _ (by omega)) ?_
  rintro _ _ ⟨⟨hs, rfl⟩ | ⟨hs, rfl⟩, rfl⟩
  · refine r_step hk rfl rfl rfl ?_
    refine r_eq (fun hq9 => absurd hq9 (by decide)) (fun _ => ?_)
    iterate 2 refine r_step hk rfl rfl rfl ?_
    refine r_callS hk [.int (nI j), .int 5] [] rfl rfl rfl rfl rfl (by omega) (c_within _ _ (nI j) 5 (by decide)) ?_
    rintro _ _ ⟨⟨hs, rfl⟩ | ⟨hs, rfl⟩, rfl⟩
    · refine r_step hk rfl rfl rfl ?_
      refine r_ne (fun _ => ?_) (fun hq9 => absurd hq9 (by decide))
      exact go
    · exact absurd ⟨j, hj, rfl⟩ hs
  · exact absurd ⟨t, ht, rfl⟩ hs
theorem c_rate (hd : 1 ≤ d) {T : Nat} (hT : w 0 16 = nI T) (hT1 : T ≤ 519) (v1 : Int32) : gE d 85 [.ref 0, .int v1] (n, u, HP w a b r q y) (fun v S' => (gin v1 101 ∧ v = some (.int 1) ∧ ∃ a', gag [37] a a' ∧ (∀ i, a' 37 i = if T / 52 ≤ i ∧ i < 10 then v1 else a 37 i) ∧ S' = (n, u, HP w a' b r q y)) ∨ (¬ gin v1 101 ∧ v = some (.int 0) ∧ S' = (n, u, HP w a b r q y))) := by
  have hk : gMT[85]? = some gro_85 := rfl
  refine r_inQ hk [some (.ref 0), some (.int v1), none] (Nat.le_of_ble_eq_true rfl) rfl ?_
  intro Q hQ
  have edv : w 0 16 / 52 = nI (T / 52) := by rw [hT]; exact pk_div (d := 52) (by omega) (by decide) (by decide)
  have loop : gin v1 101 → ∀ i, i ≤ 10 → ∀ (a1 : Nat → Nat → Int32) (v : Int32), T / 52 ≤ i → v = nI i → gag [37] a a1 → (∀ j, a1 37 j = if T / 52 ≤ j ∧ j < i then v1 else a 37 j) → gX d 85 19 [some (.ref 0), some (.int v1), some (.int v)] [] (n, u, HP w a1 b r q y) Q := by
    intro hg
    refine g_down ?_ ?_
    · intro a1 v hle hv hag h37
      subst hv
      iterate 3 refine r_step hk rfl rfl rfl ?_
      refine r_ge (fun _ => ?_) (fun hq9 => absurd (show (10 : Int32) ≤ nI 10 by decide) hq9)
      refine r_step hk rfl rfl rfl ?_
      refine r_iret hk rfl (Or.inr rfl) ?_
      exact hQ _ _ (Or.inl ⟨hg, rfl, a1, hag, h37, rfl⟩)
    · intro i hi ih a1 v hle hv hag h37
      subst hv
      iterate 3 refine r_step hk rfl rfl rfl ?_
      refine r_ge (fun hq9 => absurd hq9 (show ¬ (10 : Int32) ≤ nI i from nI_ge (b := 10) hi (by decide))) (fun _ => ?_)
      iterate 4 refine r_step hk rfl rfl rfl ?_
      refine r_is hk (i) rfl rfl rfl rfl hi rfl rfl ?_
      iterate 2 refine r_step hk rfl rfl rfl ?_
      exact ih _ _ (by omega) (nI_1 i) (gag_up hag (by decide)) (fun j => by rw [upd2_at]; by_cases e : j = i; (subst e; rw [if_pos rfl, if_pos ⟨hle, by omega⟩]); rw [if_neg e, h37 j]; by_cases e2 : T / 52 ≤ j ∧ j < i; (rw [if_pos e2, if_pos ⟨e2.1, by omega⟩]); rw [if_neg e2, if_neg (by omega)])
  iterate 2 refine r_step hk rfl rfl rfl ?_
  refine r_callS hk [.int v1, .int 101] [] rfl rfl rfl rfl rfl (by omega) (c_within _ _ v1 101 (by decide)) ?_
  rintro _ _ ⟨⟨hs, rfl⟩ | ⟨hs, rfl⟩, rfl⟩
  · refine r_step hk rfl rfl rfl ?_
    refine r_ne (fun _ => ?_) (fun hq9 => absurd hq9 (by decide))
    iterate 3 refine r_step hk rfl rfl rfl ?_
    refine r_div hk rfl (by decide) ?_
    refine r_step hk rfl rfl rfl ?_
    exact loop hs (T / 52) (by omega) a _ (Nat.le_refl _) edv gag_rf (fun j => by rw [if_neg (by omega)])
  · refine r_step hk rfl rfl rfl ?_
    refine r_ne (fun hq9 => absurd (by decide) hq9) (fun _ => ?_)
    refine r_step hk rfl rfl rfl ?_
    refine r_iret hk rfl (Or.inl rfl) ?_
    exact hQ _ _ (Or.inr ⟨hs, rfl, rfl⟩)
/-- the sales' cells -/
def cSc (q : Nat → Nat → Option Nat) (D : Nat → Nat) (z : Nat → Nat) (o p st : Nat → Nat) (N M : Nat) : Prop := ∀ j, j < M → q 2 j = some (p j) ∧ gisS D (p j) ∧ z (p j) = o (st j) ∧ st j < N
abbrev cRe (x : Nat → Nat → Int32) (o p st : Nat → Nat) (g yr : Int32) : Nat → Prop := fun j => x (p j) 5 = 0 ∧ x (o (st j)) 0 = g ∧ x (p j) 4 / 52 = yr
theorem c_relief (hd : 1 ≤ d) {M T : Nat} {p st : Nat → Nat} (hM : w 0 3 = nI M) (hM1 : M ≤ 200) (hT : w 0 16 = nI T) (hT1 : T ≤ 519) (hTs : cTs q D N o) (hS : cSc q D z o p st N M) (v1 v2 : Int32) :
    gE d 86 [.ref 0, .int v1, .int v2] (n, u, HP w a b r q (gY D x z y)) (fun v S' => S' = (n, u, HP w a b r q (gY D x z y)) ∧ ((∃ g yr, g < 20 ∧ yr < T / 52 + 1 ∧ v1 = nI g ∧ v2 = nI yr ∧ v = some (.int (gsum (cRe x o p st v1 v2) (fun j => x (p j) 3) M * a 37 yr / 100))) ∨ (¬ (gin v1 20 ∧ gin v2 (T / 52 + 1)) ∧ v = some (.int (-1))))) := by
  have hk : gMT[86]? = some gro_86 := rfl
  refine r_inQ hk [some (.ref 0), some (.int v1), some (.int v2), none, none, none] (Nat.le_of_ble_eq_true rfl) rfl ?_
  intro Q hQ
  have edv : w 0 16 / 52 + 1 = nI (T / 52 + 1) := by rw [hT, show nI T / 52 = nI (T / 52) from pk_div (d := 52) (by omega) (by decide) (by decide)]; exact nI_1 _
  have loop : ∀ g yr, g < 20 → yr < T / 52 + 1 → v1 = nI g → v2 = nI yr → ∀ t, t ≤ M → ∀ (x3 c : Int32) (l5 : Option Value), x3 = gsum (cRe x o p st v1 v2) (fun j => x (p j) 3) t → c = nI t → gX d 86 32 [some (.ref 0), some (.int v1), some (.int v2), some (.int x3), some (.int c), l5] [] (n, u, HP w a b r q (gY D x z y)) Q := by
    intro g yr hg hyr ex ez
    refine g_down ?_ ?_
    · intro x3 c l5 hx3 hc
      subst hx3
      iterate 4 refine r_step hk rfl rfl rfl ?_
      refine r_ge (fun _ => ?_) (fun hq9 => absurd (show w 0 3 ≤ c by rw [hc, hM]; exact nI_le (Nat.le_refl _) (by omega)) hq9)
      iterate 4 refine r_step hk rfl rfl rfl ?_
      refine r_ia hk (yr) rfl rfl ez (by omega) rfl ?_
      iterate 2 refine r_step hk rfl rfl rfl ?_
      refine r_div hk rfl (by decide) ?_
      refine r_iret hk rfl trivial ?_
      exact hQ _ _ ⟨rfl, Or.inl ⟨g, yr, hg, hyr, ex, ez, rfl⟩⟩
    · intro t ht ih x3 c l5 hx3 hc
      obtain ⟨s1, s2, s3, s4⟩ := hS t ht
      iterate 4 refine r_step hk rfl rfl rfl ?_
      refine r_ge (fun hq9 => absurd hq9 (show ¬ w 0 3 ≤ c by rw [hc, hM]; exact nI_ge ht (by omega))) (fun _ => ?_)
      iterate 3 refine r_step hk rfl rfl rfl ?_
      refine r_qa hk (t) (p t) rfl rfl hc (by omega) rfl s1 ?_
      iterate 2 refine r_step hk rfl rfl rfl ?_
      refine r_getV hk rfl s2 rfl ?_
      refine r_step hk rfl rfl rfl ?_
      refine r_ne (fun h55 => ?_) (fun h55 => ?_)
      · iterate 2 refine r_step hk rfl rfl rfl ?_
        exact ih _ _ _ (by first | (refine gsum_n (p := cRe x o p st v1 v2) (f := fun j => x (p j) 3) hx3 ?_; exact fun hq => h55 hq.1) | (refine gsum_n (p := cRe x o p st v1 v2) (f := fun j => x (p j) 3) hx3 ?_; exact fun hq => h67 hq.2.1) | (refine gsum_n (p := cRe x o p st v1 v2) (f := fun j => x (p j) 3) hx3 ?_; exact fun hq => h79 hq.2.2) | (refine gsum_t (p := cRe x o p st v1 v2) (f := fun j => x (p j) 3) hx3 ?_; exact ⟨h55, h67, h79⟩)) (nI_s hc)
      · refine r_step hk rfl rfl rfl ?_
        refine r_getVr hk rfl s2 ?_
        rw [s3]
        refine r_getT hk rfl (hTs.1 (st t) s4).2 rfl ?_
        iterate 2 refine r_step hk rfl rfl rfl ?_
        refine r_ne (fun h67 => ?_) (fun h67 => ?_)
        · iterate 2 refine r_step hk rfl rfl rfl ?_
          exact ih _ _ _ (by first | (refine gsum_n (p := cRe x o p st v1 v2) (f := fun j => x (p j) 3) hx3 ?_; exact fun hq => h55 hq.1) | (refine gsum_n (p := cRe x o p st v1 v2) (f := fun j => x (p j) 3) hx3 ?_; exact fun hq => h67 hq.2.1) | (refine gsum_n (p := cRe x o p st v1 v2) (f := fun j => x (p j) 3) hx3 ?_; exact fun hq => h79 hq.2.2) | (refine gsum_t (p := cRe x o p st v1 v2) (f := fun j => x (p j) 3) hx3 ?_; exact ⟨h55, h67, h79⟩)) (nI_s hc)
        · refine r_step hk rfl rfl rfl ?_
          refine r_getV hk rfl s2 rfl ?_
          refine r_step hk rfl rfl rfl ?_
          refine r_div hk rfl (by decide) ?_
          iterate 2 refine r_step hk rfl rfl rfl ?_
          refine r_ne (fun h79 => ?_) (fun h79 => ?_)
          · iterate 2 refine r_step hk rfl rfl rfl ?_
            exact ih _ _ _ (by first | (refine gsum_n (p := cRe x o p st v1 v2) (f := fun j => x (p j) 3) hx3 ?_; exact fun hq => h55 hq.1) | (refine gsum_n (p := cRe x o p st v1 v2) (f := fun j => x (p j) 3) hx3 ?_; exact fun hq => h67 hq.2.1) | (refine gsum_n (p := cRe x o p st v1 v2) (f := fun j => x (p j) 3) hx3 ?_; exact fun hq => h79 hq.2.2) | (refine gsum_t (p := cRe x o p st v1 v2) (f := fun j => x (p j) 3) hx3 ?_; exact ⟨h55, h67, h79⟩)) (nI_s hc)
          · iterate 2 refine r_step hk rfl rfl rfl ?_
            refine r_getV hk rfl s2 rfl ?_
            iterate 4 refine r_step hk rfl rfl rfl ?_
            exact ih _ _ _ (by first | (refine gsum_n (p := cRe x o p st v1 v2) (f := fun j => x (p j) 3) hx3 ?_; exact fun hq => h55 hq.1) | (refine gsum_n (p := cRe x o p st v1 v2) (f := fun j => x (p j) 3) hx3 ?_; exact fun hq => h67 hq.2.1) | (refine gsum_n (p := cRe x o p st v1 v2) (f := fun j => x (p j) 3) hx3 ?_; exact fun hq => h79 hq.2.2) | (refine gsum_t (p := cRe x o p st v1 v2) (f := fun j => x (p j) 3) hx3 ?_; exact ⟨h55, h67, h79⟩)) (nI_s hc)
  iterate 2 refine r_step hk rfl rfl rfl ?_
  refine r_callS hk [.int v1, .int 20] [] rfl rfl rfl rfl rfl (by omega) (c_within _ _ v1 20 (by decide)) ?_
  rintro _ _ ⟨⟨⟨g, hg, ex⟩, rfl⟩ | ⟨hs, rfl⟩, rfl⟩
  · refine r_step hk rfl rfl rfl ?_
    refine r_eq (fun hq9 => absurd hq9 (by decide)) (fun _ => ?_)
    iterate 4 refine r_step hk rfl rfl rfl ?_
    refine r_div hk rfl (by decide) ?_
    iterate 2 refine r_step hk rfl rfl rfl ?_
    refine r_callS hk [.int v2, .int (w 0 16 / 52 + 1)] [] rfl rfl rfl rfl rfl (by omega) (by rw [edv]; exact c_within _ _ _ _ (by omega)) ?_
    rintro _ _ ⟨⟨⟨yr, hyr, ez⟩, rfl⟩ | ⟨hz, rfl⟩, rfl⟩
    · refine r_step hk rfl rfl rfl ?_
      refine r_ne (fun _ => ?_) (fun hq9 => absurd hq9 (by decide))
      iterate 4 refine r_step hk rfl rfl rfl ?_
      exact loop g yr hg hyr ex ez 0 (Nat.zero_le _) _ _ _ rfl rfl
    · refine r_step hk rfl rfl rfl ?_
      refine r_ne (fun hq9 => absurd (by decide) hq9) (fun _ => ?_)
      refine r_step hk rfl rfl rfl ?_
      refine r_iret hk rfl trivial ?_
      first | exact hQ _ _ ⟨rfl, Or.inr ⟨fun h => hz h.2, rfl⟩⟩ | exact hQ _ _ ⟨rfl, Or.inr ⟨fun h => hs h.1, rfl⟩⟩
  · refine r_step hk rfl rfl rfl ?_
    refine r_eq (fun _ => ?_) (fun hq9 => absurd (by decide) hq9)
    refine r_step hk rfl rfl rfl ?_
    refine r_iret hk rfl trivial ?_
    first | exact hQ _ _ ⟨rfl, Or.inr ⟨fun h => hz h.2, rfl⟩⟩ | exact hQ _ _ ⟨rfl, Or.inr ⟨fun h => hs h.1, rfl⟩⟩
theorem c_validSales {M : Nat} {p st : Nat → Nat} (hM : w 0 3 = nI M) (hM1 : M ≤ 200) (hS : cSc q D z o p st N M) : gE d 88 [.ref 0] (n, u, HP w a b r q (gY D x z y)) (gre (nI (gcnt (fun j => x (p j) 5 = 0) M)) (n, u, HP w a b r q (gY D x z y))) := by
  have hk : gMT[88]? = some gro_88 := rfl
  refine r_inQ hk [some (.ref 0), none, none] (Nat.le_of_ble_eq_true rfl) rfl ?_
  intro Q hQ
  have loop : ∀ t, t ≤ M → ∀ (x3 c : Int32), x3 = nI (gcnt (fun j => x (p j) 5 = 0) t) → c = nI t → gX d 88 4 [some (.ref 0), some (.int x3), some (.int c)] [] (n, u, HP w a b r q (gY D x z y)) Q := by
    refine g_down ?_ ?_
    · intro x3 c hx3 hc
      iterate 4 refine r_step hk rfl rfl rfl ?_
      refine r_ge (fun _ => ?_) (fun hq9 => absurd (show w 0 3 ≤ c by rw [hc, hM]; exact nI_le (Nat.le_refl _) (by omega)) hq9)
      refine r_step hk rfl rfl rfl ?_
      refine r_iret hk rfl trivial ?_
      exact hQ _ _ ⟨congrArg (fun z => some (Value.int z)) hx3, rfl⟩
    · intro t ht ih x3 c hx3 hc
      obtain ⟨s1, s2, s3, s4⟩ := hS t ht
      iterate 4 refine r_step hk rfl rfl rfl ?_
      refine r_ge (fun hq9 => absurd hq9 (show ¬ w 0 3 ≤ c by rw [hc, hM]; exact nI_ge ht (by omega))) (fun _ => ?_)
      iterate 3 refine r_step hk rfl rfl rfl ?_
      refine r_qa hk (t) (p t) rfl rfl hc (by omega) rfl s1 ?_
      refine r_getV hk rfl s2 rfl ?_
      refine r_step hk rfl rfl rfl ?_
      refine r_ne (fun h21 => ?_) (fun h21 => ?_)
      · iterate 2 refine r_step hk rfl rfl rfl ?_
        exact ih _ _ (by first | exact gcnt_t' (p := fun j => x (p j) 5 = 0) hx3 h21 | exact gcnt_n (p := fun j => x (p j) 5 = 0) hx3 h21) (nI_s hc)
      · iterate 3 refine r_step hk rfl rfl rfl ?_
        exact ih _ _ (by first | exact gcnt_t' (p := fun j => x (p j) 5 = 0) hx3 h21 | exact gcnt_n (p := fun j => x (p j) 5 = 0) hx3 h21) (nI_s hc)
  iterate 4 refine r_step hk rfl rfl rfl ?_
  exact loop 0 (Nat.zero_le _) _ _ rfl rfl
theorem c_validSum {M : Nat} {p st : Nat → Nat} (hM : w 0 3 = nI M) (hM1 : M ≤ 200) (hS : cSc q D z o p st N M) : gE d 89 [.ref 0] (n, u, HP w a b r q (gY D x z y)) (gre (gsum (fun j => x (p j) 5 = 0) (fun j => x (p j) 3) M) (n, u, HP w a b r q (gY D x z y))) := by
  have hk : gMT[89]? = some gro_89 := rfl
  refine r_inQ hk [some (.ref 0), none, none] (Nat.le_of_ble_eq_true rfl) rfl ?_
  intro Q hQ
  have loop : ∀ t, t ≤ M → ∀ (x3 c : Int32), x3 = gsum (fun j => x (p j) 5 = 0) (fun j => x (p j) 3) t → c = nI t → gX d 89 4 [some (.ref 0), some (.int x3), some (.int c)] [] (n, u, HP w a b r q (gY D x z y)) Q := by
    refine g_down ?_ ?_
    · intro x3 c hx3 hc
      iterate 4 refine r_step hk rfl rfl rfl ?_
      refine r_ge (fun _ => ?_) (fun hq9 => absurd (show w 0 3 ≤ c by rw [hc, hM]; exact nI_le (Nat.le_refl _) (by omega)) hq9)
      refine r_step hk rfl rfl rfl ?_
      refine r_iret hk rfl trivial ?_
      exact hQ _ _ ⟨congrArg (fun z => some (Value.int z)) hx3, rfl⟩
    · intro t ht ih x3 c hx3 hc
      obtain ⟨s1, s2, s3, s4⟩ := hS t ht
      iterate 4 refine r_step hk rfl rfl rfl ?_
      refine r_ge (fun hq9 => absurd hq9 (show ¬ w 0 3 ≤ c by rw [hc, hM]; exact nI_ge ht (by omega))) (fun _ => ?_)
      iterate 3 refine r_step hk rfl rfl rfl ?_
      refine r_qa hk (t) (p t) rfl rfl hc (by omega) rfl s1 ?_
      refine r_getV hk rfl s2 rfl ?_
      refine r_step hk rfl rfl rfl ?_
      refine r_ne (fun h21 => ?_) (fun h21 => ?_)
      · iterate 2 refine r_step hk rfl rfl rfl ?_
        exact ih _ _ (by first | exact gsum_t (p := fun j => x (p j) 5 = 0) (f := fun j => x (p j) 3) hx3 h21 | exact gsum_n (p := fun j => x (p j) 5 = 0) (f := fun j => x (p j) 3) hx3 h21) (nI_s hc)
      · iterate 4 refine r_step hk rfl rfl rfl ?_
        refine r_qa hk (t) (p t) rfl rfl hc (by omega) rfl s1 ?_
        refine r_getV hk rfl s2 rfl ?_
        iterate 4 refine r_step hk rfl rfl rfl ?_
        exact ih _ _ (by first | exact gsum_t (p := fun j => x (p j) 5 = 0) (f := fun j => x (p j) 3) hx3 h21 | exact gsum_n (p := fun j => x (p j) 5 = 0) (f := fun j => x (p j) 3) hx3 h21) (nI_s hc)
  iterate 4 refine r_step hk rfl rfl rfl ?_
  exact loop 0 (Nat.zero_le _) _ _ rfl rfl
theorem c_thingsThatAre (hN : w 0 1 = nI N) (hN1 : N ≤ 100) (hTs : cTs q D N o) (v : Int32) : gE d 90 [.ref 0, .int v] (n, u, HP w a b r q (gY D x z y)) (gre (nI (gcnt (fun t => x (o t) 4 = v) N)) (n, u, HP w a b r q (gY D x z y))) := by
  have hk : gMT[90]? = some gro_90 := rfl
  refine r_inQ hk [some (.ref 0), some (.int v), none, none] (Nat.le_of_ble_eq_true rfl) rfl ?_
  intro Q hQ
  have loop : ∀ t, t ≤ N → ∀ (x3 c : Int32), x3 = nI (gcnt (fun t => x (o t) 4 = v) t) → c = nI t → gX d 90 4 [some (.ref 0), some (.int v), some (.int x3), some (.int c)] [] (n, u, HP w a b r q (gY D x z y)) Q := by
    refine g_down ?_ ?_
    · intro x3 c hx3 hc
      iterate 4 refine r_step hk rfl rfl rfl ?_
      refine r_ge (fun _ => ?_) (fun hq9 => absurd (show w 0 1 ≤ c by rw [hc, hN]; exact nI_le (Nat.le_refl _) (by omega)) hq9)
      refine r_step hk rfl rfl rfl ?_
      refine r_iret hk rfl trivial ?_
      exact hQ _ _ ⟨congrArg (fun z => some (Value.int z)) hx3, rfl⟩
    · intro t ht ih x3 c hx3 hc
      iterate 4 refine r_step hk rfl rfl rfl ?_
      refine r_ge (fun hq9 => absurd hq9 (show ¬ w 0 1 ≤ c by rw [hc, hN]; exact nI_ge ht (by omega))) (fun _ => ?_)
      iterate 3 refine r_step hk rfl rfl rfl ?_
      refine r_qa hk (t) (o t) rfl rfl hc (by omega) rfl (hTs.1 t ht).1 ?_
      refine r_getT hk rfl (hTs.1 t ht).2 rfl ?_
      iterate 2 refine r_step hk rfl rfl rfl ?_
      refine r_ne (fun h22 => ?_) (fun h22 => ?_)
      · iterate 2 refine r_step hk rfl rfl rfl ?_
        exact ih _ _ (by first | exact gcnt_t' (p := fun t => x (o t) 4 = v) hx3 h22 | exact gcnt_n (p := fun t => x (o t) 4 = v) hx3 h22) (nI_s hc)
      · iterate 3 refine r_step hk rfl rfl rfl ?_
        exact ih _ _ (by first | exact gcnt_t' (p := fun t => x (o t) 4 = v) hx3 h22 | exact gcnt_n (p := fun t => x (o t) 4 = v) hx3 h22) (nI_s hc)
  iterate 4 refine r_step hk rfl rfl rfl ?_
  exact loop 0 (Nat.zero_le _) _ _ rfl rfl
/-- what count says, in the class's cells -/
def ccou (w x : Nat → Nat → Int32) (o p : Nat → Nat) (N M e : Nat) : Nat → Int32
  | 0 => w 0 1
  | 1 => w 0 16
  | 2 => nI (gcnt (fun j => x (p j) 5 = 0) M)
  | 3 => gsum (fun j => x (p j) 5 = 0) (fun j => x (p j) 3) M
  | 4 => nI (gcnt (fun t => x (o t) 4 = 1) N)
  | 5 => nI (gcnt (fun t => x (o t) 4 = 2) N)
  | 6 => nI (gcnt (fun t => x (o t) 4 = 3) N)
  | 7 => w (22 + 5 * e) 5
  | 8 => w 20 1
  | _ => w 41 2
theorem c_count (hd : 1 ≤ d) {M e : Nat} {p st : Nat → Nat} (hN : w 0 1 = nI N) (hN1 : N ≤ 100) (hM : w 0 3 = nI M) (hM1 : M ≤ 200) (hTs : cTs q D N o) (hS : cSc q D z o p st N M) (he : e < 2) (hr : r 0 8 = 22 + 5 * e) (v1 : Int32) :
    gE d 87 [.ref 0, .int v1] (n, u, HP w a b r q (gY D x z y)) (fun v S' => S' = (n, u, HP w a b r q (gY D x z y)) ∧ ((∃ j, j < 10 ∧ v1 = nI j ∧ v = some (.int (ccou w x o p N M e j))) ∨ (¬ gin v1 10 ∧ v = some (.int (-1))))) := by
  have hk : gMT[87]? = some gro_87 := rfl
  refine r_inQ hk [some (.ref 0), some (.int v1)] (Nat.le_of_ble_eq_true rfl) rfl ?_
  intro Q hQ
  by_cases hg : gin v1 10
  · obtain ⟨j, hj, rfl⟩ := hg
    match j, hj with
    | 0, _ =>
      refine r_step hk rfl rfl rfl ?_
      refine r_swI hk 0 rfl (by decide) (by decide) ?_
      iterate 2 refine r_step hk rfl rfl rfl ?_
      refine r_iret hk rfl trivial ?_
      exact hQ _ _ ⟨rfl, Or.inl ⟨0, by decide, rfl, rfl⟩⟩
    | 1, _ =>
      refine r_step hk rfl rfl rfl ?_
      refine r_swI hk 1 rfl (by decide) (by decide) ?_
      iterate 2 refine r_step hk rfl rfl rfl ?_
      refine r_iret hk rfl trivial ?_
      exact hQ _ _ ⟨rfl, Or.inl ⟨1, by decide, rfl, rfl⟩⟩
    | 2, _ =>
      refine r_step hk rfl rfl rfl ?_
      refine r_swI hk 2 rfl (by decide) (by decide) ?_
      refine r_step hk rfl rfl rfl ?_
      refine r_callV hk [.ref 0] [] rfl rfl rfl rfl rfl rfl rfl (by omega) (c_validSales hM hM1 hS) ?_
      rintro _ _ ⟨rfl, rfl⟩
      refine r_iret hk rfl trivial ?_
      exact hQ _ _ ⟨rfl, Or.inl ⟨2, by decide, rfl, rfl⟩⟩
    | 3, _ =>
      refine r_step hk rfl rfl rfl ?_
      refine r_swI hk 3 rfl (by decide) (by decide) ?_
      refine r_step hk rfl rfl rfl ?_
      refine r_callV hk [.ref 0] [] rfl rfl rfl rfl rfl rfl rfl (by omega) (c_validSum hM hM1 hS) ?_
      rintro _ _ ⟨rfl, rfl⟩
      refine r_iret hk rfl trivial ?_
      exact hQ _ _ ⟨rfl, Or.inl ⟨3, by decide, rfl, rfl⟩⟩
    | 4, _ =>
      refine r_step hk rfl rfl rfl ?_
      refine r_swI hk 4 rfl (by decide) (by decide) ?_
      iterate 2 refine r_step hk rfl rfl rfl ?_
      refine r_callV hk [.ref 0, .int 1] [] rfl rfl rfl rfl rfl rfl rfl (by omega) (c_thingsThatAre hN hN1 hTs 1) ?_
      rintro _ _ ⟨rfl, rfl⟩
      refine r_iret hk rfl trivial ?_
      exact hQ _ _ ⟨rfl, Or.inl ⟨4, by decide, rfl, rfl⟩⟩
    | 5, _ =>
      refine r_step hk rfl rfl rfl ?_
      refine r_swI hk 5 rfl (by decide) (by decide) ?_
      iterate 2 refine r_step hk rfl rfl rfl ?_
      refine r_callV hk [.ref 0, .int 2] [] rfl rfl rfl rfl rfl rfl rfl (by omega) (c_thingsThatAre hN hN1 hTs 2) ?_
      rintro _ _ ⟨rfl, rfl⟩
      refine r_iret hk rfl trivial ?_
      exact hQ _ _ ⟨rfl, Or.inl ⟨5, by decide, rfl, rfl⟩⟩
    | 6, _ =>
      refine r_step hk rfl rfl rfl ?_
      refine r_swI hk 6 rfl (by decide) (by decide) ?_
      iterate 2 refine r_step hk rfl rfl rfl ?_
      refine r_callV hk [.ref 0, .int 3] [] rfl rfl rfl rfl rfl rfl rfl (by omega) (c_thingsThatAre hN hN1 hTs 3) ?_
      rintro _ _ ⟨rfl, rfl⟩
      refine r_iret hk rfl trivial ?_
      exact hQ _ _ ⟨rfl, Or.inl ⟨6, by decide, rfl, rfl⟩⟩
    | 7, _ =>
      refine r_step hk rfl rfl rfl ?_
      refine r_swI hk 7 rfl (by decide) (by decide) ?_
      refine r_step hk rfl rfl rfl ?_
      refine r_step hk rfl rfl rfl ?_
      rw [hr]
      refine r_getRu hk rfl he rfl ?_
      refine r_iret hk rfl trivial ?_
      exact hQ _ _ ⟨rfl, Or.inl ⟨7, by decide, rfl, rfl⟩⟩
    | 8, _ =>
      refine r_step hk rfl rfl rfl ?_
      refine r_swI hk 8 rfl (by decide) (by decide) ?_
      iterate 3 refine r_step hk rfl rfl rfl ?_
      refine r_iret hk rfl trivial ?_
      exact hQ _ _ ⟨rfl, Or.inl ⟨8, by decide, rfl, rfl⟩⟩
    | 9, _ =>
      refine r_step hk rfl rfl rfl ?_
      refine r_swI hk 9 rfl (by decide) (by decide) ?_
      iterate 3 refine r_step hk rfl rfl rfl ?_
      refine r_iret hk rfl trivial ?_
      exact hQ _ _ ⟨rfl, Or.inl ⟨9, by decide, rfl, rfl⟩⟩
  · have hout : v1.toInt < 0 ∨ 9 < v1.toInt := by
      by_cases h0 : v1 < 0
      · exact Or.inl (by have := Int32.lt_iff_toInt_lt.mp h0; have e2 : (0 : Int32).toInt = 0 := by decide
                         omega)
      · by_cases h9 : (9 : Int32) < v1
        · exact Or.inr (by have := Int32.lt_iff_toInt_lt.mp h9; have e2 : (9 : Int32).toInt = 9 := by decide
                           omega)
        · exact absurd (gin_of' (M := 9) h0 h9 (by decide)) hg
    refine r_step hk rfl rfl rfl ?_
    refine r_swD hk rfl hout ?_
    refine r_step hk rfl rfl rfl ?_
    refine r_iret hk rfl trivial ?_
    exact hQ _ _ ⟨rfl, Or.inr ⟨hg, rfl⟩⟩
theorem c_way (hd : 2 ≤ d) (x1 x2 x3 : Int32) : gE d 70 [.ref 0, .int x1, .int x2, .int x3] (n, u, HP w a b r q y) (fun v S' =>
    (∃ i j k, i < 6 ∧ j < 6 ∧ i ≠ j ∧ k < 100 ∧ x1 = nI i ∧ x2 = nI j ∧ x3 = nI k ∧ v = some (.int 1) ∧ S' = (n, u, HP w (upd2 (upd2 a 39 (6 * i + j) x3) 39 (6 * j + i) x3) b r q y))
    ∨ (¬ (gin x1 6 ∧ gin x2 6 ∧ x1 ≠ x2 ∧ gin x3 100) ∧ v = some (.int 0) ∧ S' = (n, u, HP w a b r q y))) := by
  have tell : gE (d - 1) 71 [.ref 38, .int x1, .int x2, .int x3] (n, u, HP w a b r q y) (fun v S' => ((∃ i j k, i < 6 ∧ j < 6 ∧ i ≠ j ∧ k < 100 ∧ x1 = nI i ∧ x2 = nI j ∧ x3 = nI k ∧ v = some (.int 1) ∧ S' = (n, u, HP w (upd2 (upd2 a 39 (6 * i + j) x3) 39 (6 * j + i) x3) b r q y))
    ∨ (¬ (gin x1 6 ∧ gin x2 6 ∧ x1 ≠ x2 ∧ gin x3 100) ∧ v = some (.int 0) ∧ S' = (n, u, HP w a b r q y))) ∧ ∃ c : Int32, (c = 0 ∨ c = 1) ∧ v = some (.int c)) := by
    have hk : gMT[71]? = some gro_71 := rfl
    refine r_in hk [some (.ref 38), some (.int x1), some (.int x2), some (.int x3), none] (Nat.le_of_ble_eq_true rfl) rfl ?_
    iterate 2 refine r_step hk rfl rfl rfl ?_
    refine r_callS hk [.int x1, .int 6] [] rfl rfl rfl rfl rfl (by omega) (c_within _ _ x1 6 (by decide)) ?_
    rintro _ _ ⟨⟨⟨i, hi, rfl⟩, rfl⟩ | ⟨hs, rfl⟩, rfl⟩
    · refine r_step hk rfl rfl rfl ?_
      refine r_eq (fun hq9 => absurd hq9 (by decide)) (fun _ => ?_)
      iterate 2 refine r_step hk rfl rfl rfl ?_
      refine r_callS hk [.int x2, .int 6] [] rfl rfl rfl rfl rfl (by omega) (c_within _ _ x2 6 (by decide)) ?_
      rintro _ _ ⟨⟨⟨j, hj, rfl⟩, rfl⟩ | ⟨hs, rfl⟩, rfl⟩
      · refine r_step hk rfl rfl rfl ?_
        refine r_eq (fun hq9 => absurd hq9 (by decide)) (fun _ => ?_)
        iterate 3 refine r_step hk rfl rfl rfl ?_
        refine r_eq (fun h20 => ?_) (fun h20 => ?_)
        · iterate 4 refine r_step hk rfl rfl rfl ?_
          refine r_eq (fun _ => ?_) (fun hq9 => absurd (by decide) hq9)
          refine r_step hk rfl rfl rfl ?_
          refine r_iret hk rfl (Or.inl rfl) ?_
          refine ⟨Or.inr ⟨?_, rfl, rfl⟩, 0, Or.inl rfl, rfl⟩
          first | exact fun h => h.2.2.1 h20 | exact fun h => hs h.2.2.2 | exact fun h => hs h.2.1 | exact fun h => hs h.1
        · iterate 5 refine r_step hk rfl rfl rfl ?_
          refine r_eq (fun hq9 => absurd hq9 (by decide)) (fun _ => ?_)
          iterate 2 refine r_step hk rfl rfl rfl ?_
          refine r_callS hk [.int x3, .int 100] [] rfl rfl rfl rfl rfl (by omega) (c_within _ _ x3 100 (by decide)) ?_
          rintro _ _ ⟨⟨⟨k, hk3, rfl⟩, rfl⟩ | ⟨hs, rfl⟩, rfl⟩
          · refine r_step hk rfl rfl rfl ?_
            refine r_ne (fun _ => ?_) (fun hq9 => absurd hq9 (by decide))
            iterate 8 refine r_step hk rfl rfl rfl ?_
            refine r_is hk (6 * i + j) rfl rfl rfl (nI_6' i j) (by omega) rfl rfl ?_
            iterate 8 refine r_step hk rfl rfl rfl ?_
            refine r_is hk (6 * j + i) rfl rfl rfl (nI_6' j i) (by omega) rfl rfl ?_
            refine r_step hk rfl rfl rfl ?_
            refine r_iret hk rfl (Or.inr rfl) ?_
            exact ⟨Or.inl ⟨i, j, k, hi, hj, fun e => h20 (by rw [e]), hk3, rfl, rfl, rfl, rfl, rfl⟩, 1, Or.inr rfl, rfl⟩
          · refine r_step hk rfl rfl rfl ?_
            refine r_ne (fun hq9 => absurd (by decide) hq9) (fun _ => ?_)
            refine r_step hk rfl rfl rfl ?_
            refine r_iret hk rfl (Or.inl rfl) ?_
            refine ⟨Or.inr ⟨?_, rfl, rfl⟩, 0, Or.inl rfl, rfl⟩
            first | exact fun h => h.2.2.1 h20 | exact fun h => hs h.2.2.2 | exact fun h => hs h.2.1 | exact fun h => hs h.1
      · refine r_step hk rfl rfl rfl ?_
        refine r_eq (fun _ => ?_) (fun hq9 => absurd (by decide) hq9)
        iterate 4 refine r_step hk rfl rfl rfl ?_
        refine r_eq (fun _ => ?_) (fun hq9 => absurd (by decide) hq9)
        refine r_step hk rfl rfl rfl ?_
        refine r_iret hk rfl (Or.inl rfl) ?_
        refine ⟨Or.inr ⟨?_, rfl, rfl⟩, 0, Or.inl rfl, rfl⟩
        first | exact fun h => h.2.2.1 h20 | exact fun h => hs h.2.2.2 | exact fun h => hs h.2.1 | exact fun h => hs h.1
    · refine r_step hk rfl rfl rfl ?_
      refine r_eq (fun _ => ?_) (fun hq9 => absurd (by decide) hq9)
      iterate 4 refine r_step hk rfl rfl rfl ?_
      refine r_eq (fun _ => ?_) (fun hq9 => absurd (by decide) hq9)
      refine r_step hk rfl rfl rfl ?_
      refine r_iret hk rfl (Or.inl rfl) ?_
      refine ⟨Or.inr ⟨?_, rfl, rfl⟩, 0, Or.inl rfl, rfl⟩
      first | exact fun h => h.2.2.1 h20 | exact fun h => hs h.2.2.2 | exact fun h => hs h.2.1 | exact fun h => hs h.1
  have hk : gMT[70]? = some gro_70 := rfl
  refine r_in hk [some (.ref 0), some (.int x1), some (.int x2), some (.int x3)] (Nat.le_of_ble_eq_true rfl) rfl ?_
  iterate 5 refine r_step hk rfl rfl rfl ?_
  refine r_callV hk [.ref 38, .int x1, .int x2, .int x3] [] rfl rfl rfl rfl rfl rfl rfl (by omega) tell ?_
  rintro _ _ ⟨h, c, hc, rfl⟩
  exact r_iret hk rfl hc h
theorem c_helper (hd : 2 ≤ d) {H : Nat} (hH : w 41 2 = nI H) (hH1 : H ≤ 10) (v1 : Int32) : gE d 76 [.ref 0, .int v1] (n, u, HP w a b r q y) (fun v S' =>
    (∃ j, j < 4096 ∧ H < 10 ∧ v1 = nI j ∧ v = some (.int (nI H)) ∧ S' = (n, u, HP (upd2 w 41 2 (nI (H + 1))) (upd2 a 42 H v1) b r q y))
    ∨ (¬ (gin v1 4096 ∧ H < 10) ∧ v = some (.int (-1)) ∧ S' = (n, u, HP w a b r q y))) := by
  have e10 : w 41 2 < 10 ↔ H < 10 := by rw [hH]; exact nI_ltI (a := H) (b := 10) (by omega) (by omega)
  have e1 : w 41 2 + 1 = nI (H + 1) := by rw [hH]; exact nI_1 H
  have e2 : w 41 2 + 1 - 1 = nI H := by rw [e1]; exact nI_pred H
  have add : gE (d - 1) 77 [.ref 41, .int v1] (n, u, HP w a b r q y) (fun v S' => ((∃ j, j < 4096 ∧ H < 10 ∧ v1 = nI j ∧ v = some (.int (nI H)) ∧ S' = (n, u, HP (upd2 w 41 2 (nI (H + 1))) (upd2 a 42 H v1) b r q y))
    ∨ (¬ (gin v1 4096 ∧ H < 10) ∧ v = some (.int (-1)) ∧ S' = (n, u, HP w a b r q y))) ∧ ∃ c : Int32, v = some (.int c)) := by
    have hk : gMT[77]? = some gro_77 := rfl
    refine r_in hk [some (.ref 41), some (.int v1)] (Nat.le_of_ble_eq_true rfl) rfl ?_
    iterate 2 refine r_step hk rfl rfl rfl ?_
    refine r_callS hk [.int v1, .int 4096] [] rfl rfl rfl rfl rfl (by omega) (c_within _ _ v1 4096 (by decide)) ?_
    rintro _ _ ⟨⟨⟨j, hj, hv⟩, rfl⟩ | ⟨hs, rfl⟩, rfl⟩
    · refine r_step hk rfl rfl rfl ?_
      refine r_eq (fun hq9 => absurd hq9 (by decide)) (fun _ => ?_)
      iterate 4 refine r_step hk rfl rfl rfl ?_
      refine r_lt (fun h16 => ?_) (fun h16 => ?_)
      · iterate 5 refine r_step hk rfl rfl rfl ?_
        refine r_is hk (H) rfl rfl rfl hH (e10.mp h16) rfl rfl ?_
        iterate 5 refine r_step hk rfl rfl rfl ?_
        refine r_putI hk rfl rfl rfl rfl ?_
        iterate 4 refine r_step hk rfl rfl rfl ?_
        refine r_iret hk rfl trivial ?_
        refine ⟨Or.inl ⟨j, hj, e10.mp h16, hv, congrArg (fun z => some (Value.int z)) e2, ?_⟩, _, rfl⟩
        rw [← e1]
      · refine r_step hk rfl rfl rfl ?_
        refine r_iret hk rfl trivial ?_
        refine ⟨Or.inr ⟨?_, rfl, rfl⟩, _, rfl⟩
        first | exact fun h => h16 (e10.mpr h.2) | exact fun h => hs h.1
    · refine r_step hk rfl rfl rfl ?_
      refine r_eq (fun _ => ?_) (fun hq9 => absurd (by decide) hq9)
      refine r_step hk rfl rfl rfl ?_
      refine r_iret hk rfl trivial ?_
      refine ⟨Or.inr ⟨?_, rfl, rfl⟩, _, rfl⟩
      first | exact fun h => h16 (e10.mpr h.2) | exact fun h => hs h.1
  have hk : gMT[76]? = some gro_76 := rfl
  refine r_in hk [some (.ref 0), some (.int v1)] (Nat.le_of_ble_eq_true rfl) rfl ?_
  iterate 3 refine r_step hk rfl rfl rfl ?_
  refine r_callV hk [.ref 41, .int v1] [] rfl rfl rfl rfl rfl rfl rfl (by omega) add ?_
  rintro _ _ ⟨h, c, rfl⟩
  exact r_iret hk rfl trivial h
end GC6
