/-! ===== the text; a look ===== -/
section GJ11
variable {d K : Nat} {y : gH} {S : gS}
theorem kE_inj {l1 l2 : kLs} (h : kE l1 = kE l2) : l1 = l2 := congrArg (fun s : kSt => s.2.2.2.2.1) h
theorem kF_inj {f1 f2 : Nat} (h : kF f1 = kF f2) : f1 = f2 := congrArg (fun s : kSt => s.2.2.2.2.2) h
theorem kE_F {l1 : kLs} {f2 : Nat} (h : kE l1 = kF f2) : False := absurd (congrArg (fun s : kSt => s.1) h) (by show ¬ (7 : Nat) = 3; decide)
theorem j_text (hd : 50 ≤ d) (h : J K y S) : jTwo d K y 15 96 [] S := by
  obtain ⟨n, u, w, a, b, r, q, D, x, z, N, M, T, o, p, st, rfl, h0⟩ := h
  obtain ⟨k1, k2, k3, k4, k5, k6, k7, k8, k9, k10, k11⟩ := id h0
  obtain ⟨t1, t2, t3, t4, t5, t6, t7, t8, t9, t10⟩ := id k10
  obtain ⟨s1, s2, s3, s4, s5, s6, s7, s8⟩ := id k11
  obtain ⟨m1, m2, m3, m4, m5, m6, m7, m8⟩ := id k8
  have x1 : ∀ t, x (o t) 1 = a 61 t := t8.1 1 (by decide)
  have x4 : ∀ t, x (o t) 4 = a 64 t := t8.1 4 (by decide)
  have x5 : ∀ t, x (o t) 5 = a 65 t := t8.1 5 (by decide)
  have x6 : ∀ t, x (o t) 6 = a 66 t := t8.1 6 (by decide)
  have kx : ∀ t, t < N → gin (x (o t) 1) 8 := fun t ht => by rw [x1]; exact t9 t ht
  have sx : ∀ t, t < N → gin (x (o t) 5) 5 := fun t ht => by rw [x5]; exact t10.1 t ht
  have hst : ∀ j, j < M → gin (a 74 j) N := fun j hj => ⟨st j, (s4 j hj).2.2.2, (s5 j hj).2.1⟩
  obtain ⟨e, hh, ls, he, hh2, r8, r9, h15, htx, hkx⟩ := id k9
  obtain ⟨e21, len, hl6, l1, l2, hlf⟩ := m1
  have hf : ∀ i, i < len → a 21 i = nI ((a 21 i).toNatClampNeg) ∧ (a 21 i).toNatClampNeg < 128 := fun i hi => by
    obtain ⟨c, hc, ec⟩ := hlf i hi
    rw [ec, nI_clamp (by omega)]
    exact ⟨rfl, hc⟩
  refine gE_mono (Nat.le_refl d) (c_text (f := fun i => (a 21 i).toNatClampNeg) (by omega) he r8 r9 ⟨l1, hl6, hf⟩ htx) ?_
  rintro v _ ⟨w1, a1, r1, e1, he1, fw, h20, hag, q8, q9, hres, rfl⟩
  have ra1 : ∀ l, l ∉ [23, 24, 25, 28, 29, 30] → a1 l = a l := fun l hl => hag l (by simp only [List.mem_cons, List.not_mem_nil, or_false] at hl ⊢; omega)
  have r44 : w1 44 = w 44 := fw 44 (by decide) (by decide) (by decide) (by omega)
  have hkx1 : kTx a1 hh ls := by
    refine ⟨?_, hkx.2.1, kLn_cg ls 0 0 (fun j _ _ => ?_) (fun j _ _ => ?_) hkx.2.2.1, hkx.2.2.2⟩
    · rw [ra1 50 (by decide)]; exact hkx.1
    · rw [ra1 51 (by decide), ra1 52 (by decide)]; exact ⟨rfl, rfl⟩
    · rw [ra1 53 (by decide), ra1 54 (by decide)]; exact ⟨rfl, rfl⟩
  have hv : ∃ c, v = some (.int c) := by
    rcases hres with ⟨ls1, hR1, rfl, htx1⟩ | ⟨g1, hg1, hg2, hR1, rfl, htx1⟩
    · exact ⟨_, rfl⟩
    · exact ⟨_, rfl⟩
  obtain ⟨c, rfl⟩ := hv
  refine ⟨c, rfl, gHp_of k4, gE_mono (Nat.le_refl d) (m_text (f := fun i => (a 21 i).toNatClampNeg) (len := len) (by omega) m8 (by rw [r44]; exact l2) hl6 (fun i hi => by rw [ra1 45 (by decide), ← e21]; exact hf i hi) (by rw [r44]; exact h15) hh2 hkx1) ?_⟩
  rintro v' _ ⟨w2, a2, b2, h2, fw2, f44, hag2, hagb, z0, z2, z15, hh3, hQ, rfl⟩
  have ra2 : ∀ l, l ∉ [23, 24, 25, 28, 29, 30, 46, 47, 50, 51, 52, 53, 54, 55, 56, 57] → a2 l = a l := fun l hl => by
    rw [hag2 l (by simp only [List.mem_cons, List.not_mem_nil, or_false] at hl ⊢; omega)]
    exact ra1 l (by simp only [List.mem_cons, List.not_mem_nil, or_false] at hl ⊢; omega)
  have wo : ∀ j, j ≠ 44 → j ≠ 20 → j ≠ 32 → j ≠ 33 → j ≠ 22 + 5 * (1 - e) → w2 j = w j := fun j q1 q2 q3 q4 q5 => (fw2 j q1).trans (fw j q2 q3 q4 q5)
  have w44 : ∀ s, s ∉ [0, 2, 3, 7, 8, 15, 16, 17, 18] → w2 44 s = w 44 s := fun s hs => by rw [f44 s hs, r44]
  have w0 : w2 0 = w 0 := wo 0 (by decide) (by decide) (by decide) (by decide) (by omega)
  have htr : ∀ l, cTx w1 a1 e1 l → cTx w2 a2 e1 l := fun l ht => by
    have hq : ∀ i, 23 ≤ i → i ≤ 25 → a2 (i + 5 * e1) = a1 (i + 5 * e1) := fun i q1 q2 => hag2 _ (by simp only [List.mem_cons, List.not_mem_nil, or_false]; omega)
    refine ⟨by rw [fw2 (22 + 5 * e1) (by omega)]; exact ht.1, ht.2.1, cLn_cg l 0 0 (fun j _ _ => ?_) (fun j _ _ => ?_) ht.2.2.1, ht.2.2.2⟩
    · rw [hq 25 (by omega) (by omega), hq 24 (by omega) (by omega)]; exact ⟨rfl, rfl⟩
    · rw [hq 23 (by omega) (by omega)]
  have key : v' = some (.int c) ∧ ∃ l, cTx w1 a1 e1 l ∧ kTx a2 h2 l := by
    rcases hres with ⟨ls1, hR1, ec, htx1⟩ | ⟨g1, hg1, hg2, hR1, ec, htx1⟩
    · rcases hQ with ⟨ls2, hR2, rfl, _, hk2⟩ | ⟨f2, _, _, hR2, rfl, _, hk2⟩
      · have el := kE_inj (kR_det hR1 hR2 (kE_fin _) (kE_fin _))
        subst el
        exact ⟨ec.symm, ls1, htx1, hk2⟩
      · exact (kE_F (kR_det hR1 hR2 (kE_fin _) (kF_fin _))).elim
    · rcases hQ with ⟨ls2, hR2, rfl, _, hk2⟩ | ⟨f2, _, _, hR2, rfl, _, hk2⟩
      · exact (kE_F (kR_det hR2 hR1 (kE_fin _) (kF_fin _))).elim
      · have el := kF_inj (kR_det hR1 hR2 (kF_fin _) (kF_fin _))
        subst el
        exact ⟨ec.symm, ls, htx1, hk2⟩
  obtain ⟨ev, l, hc, hk⟩ := key
  have a21 : a2 21 = a 21 := ra2 21 (by decide)
  have a45 : a2 45 = a 45 := ra2 45 (by decide)
  refine ⟨ev, J_of (N := N) (M := M) (T := T) (o := o) (p := p) (st := st) ⟨k1, by omega, by omega, k4, k5, by rw [w0]; exact k6, by rw [w44 24 (by decide)]; exact k7, ⟨⟨by rw [a21, a45]; exact e21, 0, by omega, ?_, ?_, fun i hi => absurd hi (by omega)⟩, ?_, ?_, ?_, ?_, ?_, ?_, ?_⟩, ⟨e1, h2, l, he1, hh3, q8, q9, z15, htr l hc, hk⟩, ?_, ?_⟩⟩
  · rw [fw2 20 (by decide), h20]; rfl
  · rw [z2]; rfl
  · rw [ra2 39 (by decide), ra2 79 (by decide)]; exact m2
  · rw [wo 41 (by decide) (by decide) (by decide) (by decide) (by omega), w44 49 (by decide), ra2 42 (by decide), ra2 80 (by decide)]; exact m3
  · rw [ra2 35 (by decide), ra2 71 (by decide), ra2 36 (by decide), ra2 72 (by decide)]; exact jDbl_up m4
  · rw [w0, w44 47 (by decide)]; exact m5
  · rw [w44 39 (by decide), ra2 37 (by decide), ra2 73 (by decide)]; exact m6
  · rw [ra2 68 (by decide)]; exact m7
  · intro k hk
    rw [hagb 49 (by decide)]; exact m8 k hk
  · exact jTh_cg k10 (Nat.le_refl _) (by rw [w0]) (w44 25 (by decide)) (fun s hs => wo _ (by omega) (by omega) (by omega) (by omega) (by omega)) (fun j q1 q2 => ra2 j (by simp only [List.mem_cons, List.not_mem_nil, or_false]; omega)) (ra2 19 (by decide)) (fun s hs => ra2 _ (by simp only [List.mem_cons, List.not_mem_nil, or_false]; omega))
  · exact jSa_cg k11 (Nat.le_refl _) (by rw [w0]) (w44 41 (by decide)) (fun j hj => ra2 j (by simp only [List.mem_cons, List.not_mem_nil, or_false] at hj ⊢; omega)) (fun s hs => ra2 _ (by simp only [List.mem_cons, List.not_mem_nil, or_false]; omega)) (fun t _ h5 => by rw [ra2 64 (by decide), ra2 65 (by decide), ra2 66 (by decide)]; exact ⟨h5, rfl, rfl⟩) (fun _ _ => rfl) (fun _ => rfl)
/-- a look: either it answers, and so does the reference, whatever lies in the law's own row; or both refuse, and cells may be spent -/
def jLk (d K : Nat) (y : gH) (v1 v2 : Int32) (S : gS) : Prop :=
  (∃ n u w a b r q y' N, S = (n, u, HP w a b r q y') ∧ y' 1000000000 = y 1000000000 ∧ n < 1000000 ∧ w 0 1 = nI N ∧ N ≤ 100 ∧ ((gin v1 N ∧ gin v2 5 ∧ gE d 91 [.ref 0, .int v1, .int v2] S (fun v S1 => ∃ c a1, v = some (.int c) ∧ S1 = (n, u, HP w a1 b r q y') ∧ ∀ x64, gE d 158 [.ref 44, .int v1, .int v2] (n, u, HP w a1 (upd2 b 83 0 x64) r q y') (fun v' S2 => v' = some (.int c) ∧ J (K + 1) y S2 ∧ ∃ w2 a2, w2 44 0 = 0 ∧ S2 = (n, u, HP w2 a2 (upd2 b 83 0 x64) r q y'))))
    ∨ (¬ (gin v1 N ∧ gin v2 5) ∧ ∀ n' u', n ≤ n' → n' ≤ n + 10 → u' ≤ u + 100 → gE d 158 [.ref 44, .int v1, .int v2] (n', u', HP w a b r q y') (fun v' S2 => (∃ c, v' = some (.int c)) ∧ J (K + 1) y S2 ∧ ∃ w2 a2, w2 44 0 = 1 ∧ S2 = (n', u', HP w2 a2 b r q y')))))
theorem j_look (hd : 8 ≤ d) (hK : K ≤ 600) (h : J K y S) (v1 v2 : Int32) : jLk d K y v1 v2 S := by
  obtain ⟨n, u, w, a, b, r, q, D, x, z, N, M, T, o, p, st, rfl, h0⟩ := h
  obtain ⟨k1, k2, k3, k4, k5, k6, k7, k8, k9, k10, k11⟩ := id h0
  obtain ⟨t1, t2, t3, t4, t5, t6, t7, t8, t9, t10⟩ := id k10
  obtain ⟨s1, s2, s3, s4, s5, s6, s7, s8⟩ := id k11
  obtain ⟨m1, m2, m3, m4, m5, m6, m7, m8⟩ := id k8
  have x1 : ∀ t, x (o t) 1 = a 61 t := t8.1 1 (by decide)
  have x4 : ∀ t, x (o t) 4 = a 64 t := t8.1 4 (by decide)
  have x5 : ∀ t, x (o t) 5 = a 65 t := t8.1 5 (by decide)
  have x6 : ∀ t, x (o t) 6 = a 66 t := t8.1 6 (by decide)
  have kx : ∀ t, t < N → gin (x (o t) 1) 8 := fun t ht => by rw [x1]; exact t9 t ht
  have sx : ∀ t, t < N → gin (x (o t) 5) 5 := fun t ht => by rw [x5]; exact t10.1 t ht
  have hst : ∀ j, j < M → gin (a 74 j) N := fun j hj => ⟨st j, (s4 j hj).2.2.2, (s5 j hj).2.1⟩
  obtain ⟨e, hh, ls, he, hh2, r8, r9, h15, htx, hkx⟩ := id k9
  refine ⟨n, u, w, a, b, r, q, gY D x z y, N, rfl, by simp only [gY, k4], by omega, t2, t1, ?_⟩
  by_cases hin : gin v1 N ∧ gin v2 5
  · refine Or.inl ⟨hin.1, hin.2, ?_⟩
    obtain ⟨⟨t, ht, rfl⟩, ⟨j, hj, rfl⟩⟩ := hin
    obtain ⟨k, hk, ek⟩ := t9 t ht
    refine gE_mono (Nat.le_refl d) (c_look (by omega) t2 t1 k6 (by omega) t4 ht hk ek hj he r8 htx t8) ?_
    rintro _ _ ⟨a1, hag, rfl, rfl⟩
    refine ⟨_, a1, rfl, rfl, fun x64 => ?_⟩
    have ra1 : ∀ l, l ∉ jXf → a1 l = a l := cXs_f he hag
    have hkx1 : kTx a1 hh ls := by
      refine ⟨?_, hkx.2.1, kLn_cg ls 0 0 (fun j _ _ => ?_) (fun j _ _ => ?_) hkx.2.2.1, hkx.2.2.2⟩
      · rw [ra1 50 (by decide)]; exact hkx.1
      · rw [ra1 51 (by decide), ra1 52 (by decide)]; exact ⟨rfl, rfl⟩
      · rw [ra1 53 (by decide), ra1 54 (by decide)]; exact ⟨rfl, rfl⟩
    have e61 : a1 61 = a 61 := ra1 61 (by decide)
    refine gE_mono (Nat.le_refl d) (m_look (by omega) t3 t1 k7 (by omega) h15 hh2 (kTx_gm hh2 hkx1) (fun t ht => by rw [e61]; exact t9 t ht) _ _) ?_
    rintro _ _ (⟨t', k', j', a2, ht', hk', hj', e1, e2, ek', hag2, rfl, rfl⟩ | ⟨hn, rfl, rfl⟩)
    · have e9 := nI_inj e1 (by omega) (by omega)
      subst e9
      have e9 := nI_inj e2 (by omega) (by omega)
      subst e9
      rw [e61] at ek'
      have e9 := nI_inj (ek.symm.trans ek') (by omega) (by omega)
      subst e9
      have efa : gfa a1 T t k = gfa a T t k := by
        funext l
        unfold gfa
        rw [e61, ra1 62 (by decide), ra1 63 (by decide), ra1 68 (by decide), ra1 60 (by decide)]
      have eg : glk a1 T ls t k j = glk a T ls t k j := by
        unfold glk
        rw [ra1 64 (by decide), ra1 65 (by decide), ra1 66 (by decide), ra1 67 (by decide), efa]
      refine ⟨by rw [eg], J_of (jI_fr h0 jfw_Th (gag_tr (cXs_f he hag) (gag_sub hag2 (by decide))) (upd2_row _ _ _ _ (by decide)) (Nat.le_refl _) (by omega) (by omega)), gTh w, a2, upd2_same _ _ _ _, rfl⟩
    · exact absurd ⟨⟨t, ht, rfl⟩, ⟨j, hj, rfl⟩⟩ hn
  · refine Or.inr ⟨hin, fun n' u' hn1 hn2 hu => ?_⟩
    refine gE_mono (Nat.le_refl d) (m_look (by omega) t3 t1 k7 (by omega) h15 hh2 (kTx_gm hh2 hkx) t9 _ _) ?_
    rintro _ _ (⟨t', k', j', a2, ht', hk', hj', e1, e2, ek', hag2, rfl, rfl⟩ | ⟨hn, rfl, rfl⟩)
    · exact absurd ⟨⟨t', ht', e1⟩, ⟨j', hj', e2⟩⟩ hin
    · exact ⟨⟨_, rfl⟩, J_of (jI_fr h0 (jfw_44 (by decide)) gag_rf rfl hn1 hn2 hu), upd2 w 44 0 1, a, upd2_same _ _ _ _, rfl⟩
end GJ11
