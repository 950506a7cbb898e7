/-! ===== selling; weeks ===== -/
def g6 (Z Z' : Nat → Nat → Int32) : Prop := ∀ j, 60 ≤ j → j ≤ 73 → Z' j = Z j
theorem gwkX_g6 {ls : List (Nat × List Nat)} {N T : Nat} {Z Z' : Nat → Nat → Int32} (h : g6 Z Z') : gwkX ls N T Z' = gwkX ls N T Z := by
  have hf : ∀ t k, gfa Z' (T + 1) t k = gfa Z (T + 1) t k := fun t k => by
    unfold gfa
    rw [h 61 (by decide) (by decide), h 62 (by decide) (by decide), h 63 (by decide) (by decide), h 68 (by decide) (by decide), h 60 (by decide) (by decide)]
  unfold gwkX gXo
  rw [h 69 (by decide) (by decide), h 63 (by decide) (by decide), h 64 (by decide) (by decide), h 65 (by decide) (by decide), h 66 (by decide) (by decide), h 61 (by decide) (by decide)]
  simp only [hf]
theorem gwkZ_g6 {ls : List (Nat × List Nat)} {N T : Nat} {rate : Int32} {Z Z' : Nat → Nat → Int32} (h : g6 Z Z') : g6 (gwkZ ls N T rate Z) (gwkZ ls N T rate Z') := by
  intro j h1 h2
  unfold gwkZ
  rw [gwkX_g6 h, h 70 (by decide) (by decide), h 64 (by decide) (by decide), h 65 (by decide) (by decide), h 61 (by decide) (by decide), h 73 (by decide) (by decide), h j h1 h2]
theorem gwks_g6 {ls : List (Nat × List Nat)} {N : Nat} {rate : Int32} : ∀ (k T : Nat) {Z Z' : Nat → Nat → Int32}, g6 Z Z' → g6 (gwks ls N rate k T Z) (gwks ls N rate k T Z') := by
  intro k
  induction k with
  | zero => intro T Z Z' h; exact h
  | succ k ih => intro T Z Z' h; exact ih (T + 1) (gwkZ_g6 h)
theorem gwks_o {ls : List (Nat × List Nat)} {N : Nat} {rate : Int32} {j : Nat} (hj : j ≠ 64 ∧ j ≠ 65 ∧ j ≠ 66 ∧ j ≠ 70 ∧ j ≠ 73) : ∀ (k T : Nat) (Z : Nat → Nat → Int32), gwks ls N rate k T Z j = Z j := by
  intro k
  induction k with
  | zero => intro T Z; rfl
  | succ k ih => intro T Z; exact (ih (T + 1) _).trans (gwkZ_o hj)
theorem gsea_si {N T : Nat} {rm : Nat → Int32} {wy : Nat → Nat} {se : Nat → Int32} {ssn : Int32} {X : gP3} (M : Nat) (h : ∀ t, t < M → ∃ c, c ≤ T ∧ X.2.2 t = nI c) : ∀ k, ∀ t, t < M → ∃ c, c ≤ T ∧ (gsea N rm (nI T) wy se ssn k X).2.2 t = nI c := by
  intro k
  induction k with
  | zero => exact h
  | succ k ih =>
    unfold gsea
    split
    · exact gsrt_si M ih
    · exact ih
theorem gsea_5 {N : Nat} {rm : Nat → Int32} {now : Int32} {wy : Nat → Nat} {se : Nat → Int32} {ssn : Int32} {X : gP3} {t : Nat} (h : X.1 t = 5) : ∀ k, (gsea N rm now wy se ssn k X).1 t = 5 ∧ (gsea N rm now wy se ssn k X).2.1 t = X.2.1 t ∧ (gsea N rm now wy se ssn k X).2.2 t = X.2.2 t := by
  intro k
  induction k with
  | zero => exact ⟨h, rfl, rfl⟩
  | succ k ih =>
    unfold gsea
    split
    · rename_i hc
      have hne : t ≠ k := fun e => by
        have h2 := hc.1
        have h3 := ih.1
        rw [e] at h3
        rw [h3] at h2
        exact absurd h2 (by decide)
      obtain ⟨g1, g2, g3⟩ := gsrt_o (N := N) (rm := rm) (now := now) (wy := wy k) (X := gsea N rm now wy se ssn k X) (s := gfst N rm (gsea N rm now wy se ssn k X)) hne
      exact ⟨g1.trans ih.1, g2.trans ih.2.1, g3.trans ih.2.2⟩
    · exact ih
theorem gwkX_5 {ls : List (Nat × List Nat)} {N T : Nat} {Z : Nat → Nat → Int32} {t : Nat} (h : Z 64 t = 5) : (gwkX ls N T Z).1 t = 5 ∧ (gwkX ls N T Z).2.1 t = Z 65 t ∧ (gwkX ls N T Z).2.2 t = Z 66 t := by
  have hr : (grag N (nI (T + 1)) (gXo Z)).1 t = 5 := by
    show (if t < N ∧ Z 64 t = 1 ∧ ¬ nI (T + 1) - Z 66 t < 5 then 3 else Z 64 t) = 5
    rw [if_neg (fun hc => by have h1 := hc.2.1; rw [h] at h1; exact absurd h1 (by decide))]
    exact h
  unfold gwkX
  split
  · exact gsea_5 (X := grag N (nI (T + 1)) (gXo Z)) hr N
  · exact ⟨hr, rfl, rfl⟩
theorem jWk_st {ls : List (Nat × List Nat)} {N T : Nat} {rate : Int32} {Z : Nat → Nat → Int32} (hN : N ≤ 100) (h : jWk N T Z) : jWk N (T + 1) (gwkZ ls N T rate Z) := by
  obtain ⟨h1, h2, h3⟩ := h
  have hs : ∀ t, t < N → ∃ c, c ≤ T + 1 ∧ (grag N (nI (T + 1)) (gXo Z)).2.2 t = nI c := fun t ht => by
    obtain ⟨c, hc, e⟩ := h2 t ht
    exact ⟨c, by omega, e⟩
  refine ⟨gwkX_sh N h1, ?_, fun i hi => ?_⟩
  · show ∀ t, t < N → ∃ c, c ≤ T + 1 ∧ (gwkX ls N T Z).2.2 t = nI c
    unfold gwkX
    split
    · exact gsea_si N hs N
    · exact hs
  · obtain ⟨l, hl, e⟩ := h3 i hi
    have hg : glc (Z 64) (Z 65) (Z 61) i N ≤ N := gcnt_le _ _
    refine ⟨l + glc (Z 64) (Z 65) (Z 61) i N, by omega, ?_⟩
    show Z 70 i + nI (glc (Z 64) (Z 65) (Z 61) i N) = _
    rw [e, nI_add]
theorem jRate_st {T : Nat} {rt : Int32} {f1 f2 : Nat → Int32} (h : jRate T rt f1 f2) : jRate (T + 1) rt f1 (gu f2 (T / 52) rt) := by
  intro yr hy
  rw [h yr hy]
  show _ = if (T + 1) / 52 ≤ yr then rt else (if yr = T / 52 then rt else f2 yr)
  by_cases c1 : (T + 1) / 52 ≤ yr
  · rw [if_pos c1, if_pos (by omega)]
  · rw [if_neg c1]
    by_cases c2 : yr = T / 52
    · rw [if_pos c2, if_pos (by omega)]
    · rw [if_neg c2, if_neg (by omega)]
theorem jwks {ls : List (Nat × List Nat)} {N : Nat} {rate : Int32} {f1 : Nat → Int32} (hN : N ≤ 100) : ∀ (k T : Nat) (Z : Nat → Nat → Int32), jWk N T Z → jRate T rate f1 (Z 73) → jWk N (T + k) (gwks ls N rate k T Z) ∧ jRate (T + k) rate f1 (gwks ls N rate k T Z 73) ∧ ∀ t, Z 64 t = 5 → gwks ls N rate k T Z 64 t = 5 ∧ gwks ls N rate k T Z 65 t = Z 65 t ∧ gwks ls N rate k T Z 66 t = Z 66 t := by
  intro k
  induction k with
  | zero => intro T Z h1 h2; exact ⟨h1, h2, fun t h => ⟨h, rfl, rfl⟩⟩
  | succ k ih =>
    intro T Z h1 h2
    obtain ⟨i1, i2, i3⟩ := ih (T + 1) (gwkZ ls N T rate Z) (jWk_st hN h1) (jRate_st h2)
    rw [show T + (k + 1) = T + 1 + k by omega]
    refine ⟨i1, i2, fun t h => ?_⟩
    obtain ⟨g1, g2, g3⟩ := gwkX_5 (ls := ls) (N := N) (T := T) h
    obtain ⟨m1, m2, m3⟩ := i3 t g1
    exact ⟨m1, m2.trans g2, m3.trans g3⟩
section GJ10
variable {d K : Nat} {y : gH} {S : gS}
theorem j_weeks (hd : 50 ≤ d) (h : J K y S) (v1 : Int32) : jTwo d K y 49 131 [.int v1] S := by
  obtain ⟨n, u, w, a, b, r, q, D, x, z, N, M, T, o, p, st, rfl, h0⟩ := h
  obtain ⟨k1, k2, k3, k4, k5, k6, k7, k8, k9, k10, k11⟩ := id h0
  obtain ⟨t1, t2, t3, t4, t5, t6, t7, t8, t9, t10⟩ := id k10
  obtain ⟨s1, s2, s3, s4, s5, s6, s7, s8⟩ := id k11
  obtain ⟨m1, m2, m3, m4, m5, m6, m7, m8⟩ := id k8
  have x1 : ∀ t, x (o t) 1 = a 61 t := t8.1 1 (by decide)
  have x4 : ∀ t, x (o t) 4 = a 64 t := t8.1 4 (by decide)
  have x5 : ∀ t, x (o t) 5 = a 65 t := t8.1 5 (by decide)
  have x6 : ∀ t, x (o t) 6 = a 66 t := t8.1 6 (by decide)
  have kx : ∀ t, t < N → gin (x (o t) 1) 8 := fun t ht => by rw [x1]; exact t9 t ht
  have sx : ∀ t, t < N → gin (x (o t) 5) 5 := fun t ht => by rw [x5]; exact t10.1 t ht
  have hst : ∀ j, j < M → gin (a 74 j) N := fun j hj => ⟨st j, (s4 j hj).2.2.2, (s5 j hj).2.1⟩
  obtain ⟨e, hh, ls, he, hh2, r8, r9, h15, htx, hkx⟩ := id k9
  refine gE_mono (Nat.le_refl d) (c_weeks (rate := w 44 39) (by omega) t2 t1 k6 k5 t4 t9 t10.1 he r8 htx t8 v1) ?_
  rintro _ _ (⟨k, w1, a1, xx, hk, hTk, rfl, hR, hag, fw, fx, rfl, rfl⟩ | ⟨hn, rfl, rfl⟩)
  · have r0 : w1 0 = upd2 w 0 16 (nI (T + k)) 0 := fw 0 (fun s hs => by omega)
    have ro : ∀ i, i ∈ [20, 22, 27, 41, 44] → w1 i = w i := fun i hi => by
      simp only [List.mem_cons, List.not_mem_nil, or_false] at hi
      rw [fw i (fun s hs => by omega), upd2_row _ _ _ _ (by omega)]
    have r44 : w1 44 = w 44 := ro 44 (by decide)
    have ra1 : ∀ l, 18 < l → l ∉ jXf → a1 l = a l := fun l h1 h2 => hag l (by simp only [List.mem_cons, List.not_mem_nil, or_false] at h2 ⊢; omega)
    have hkx1 : kTx a1 hh ls := by
      refine ⟨?_, hkx.2.1, kLn_cg ls 0 0 (fun j _ _ => ?_) (fun j _ _ => ?_) hkx.2.2.1, hkx.2.2.2⟩
      · rw [ra1 50 (by decide) (by decide)]; exact hkx.1
      · rw [ra1 51 (by decide) (by decide), ra1 52 (by decide) (by decide)]; exact ⟨rfl, rfl⟩
      · rw [ra1 53 (by decide) (by decide), ra1 54 (by decide) (by decide)]; exact ⟨rfl, rfl⟩
    have e61 : a1 61 = a 61 := ra1 61 (by decide) (by decide)
    have e65 : a1 65 = a 65 := ra1 65 (by decide) (by decide)
    refine ⟨_, rfl, gHp_of k4, gE_mono (Nat.le_refl d) (m_weeks (by omega) (by rw [r44]; exact t3) t1 (by rw [r44]; exact k7) k5 (by rw [r44]; exact h15) hh2 (kTx_gm hh2 hkx1) (fun t ht => by rw [e61]; exact t9 t ht) (fun t ht => by rw [e65]; exact t10.1 t ht) _) ?_⟩
    rintro _ _ (⟨k', a2, hk', hTk', e1, hag2, rfl, rfl⟩ | ⟨hn, rfl, rfl⟩)
    · have e9 := nI_inj e1 (by omega) (by omega)
      subst e9
      rw [r44] at hag2
      have hg6 : g6 a a1 := fun j h1 h2 => ra1 j (by omega) (by simp only [List.mem_cons, List.not_mem_nil, or_false]; omega)
      obtain ⟨i1, i2, i3⟩ := jwks (ls := ls) (rate := w 44 39) t1 k T a t10 m6
      have ho := fun j hj => gwks_o (ls := ls) (N := N) (rate := w 44 39) (j := j) hj k T a1
      have hG : ∀ j, 60 ≤ j → j ≤ 73 → a2 j = gwks ls N (w 44 39) k T a j := fun j h1 h2 => by
        rw [hag2 j (by simp only [List.mem_cons, List.not_mem_nil, or_false]; omega)]
        exact gwks_g6 k T hg6 j h1 h2
      have ra2 : ∀ j, j ∉ [58, 59] → j ≠ 64 ∧ j ≠ 65 ∧ j ≠ 66 ∧ j ≠ 70 ∧ j ≠ 73 → a2 j = a1 j := fun j h1 h2 => by
        rw [hag2 j h1]; exact ho j h2
      have ra3 : ∀ j, 18 < j → j ∉ jXf → j ≠ 64 ∧ j ≠ 65 ∧ j ≠ 66 ∧ j ≠ 70 ∧ j ≠ 73 → a2 j = a j := fun j h1 h2 h3 => by
        rw [ra2 j (by simp only [List.mem_cons, List.not_mem_nil, or_false] at h2 ⊢; omega) h3]; exact ra1 j h1 h2
      have r0' : ∀ l, l ≠ 16 → w1 0 l = w 0 l := fun l hl => by rw [r0, upd2_col _ _ _ _ hl]
      have r16 : w1 0 16 = nI (T + k) := by rw [r0, upd2_same]
      refine ⟨rfl, J_of (N := N) (M := M) (T := T + k) (o := o) (p := p) (st := st) ⟨k1, by omega, by omega, k4, hTk, ?_, upd2_same _ _ _ _, ⟨?_, ?_, ?_, ?_, ?_, ?_, ?_, m8⟩, ?_, ?_, ?_⟩⟩
      · exact r16
      · rw [upd2_row _ _ _ _ (by decide), gTh_row (by decide), ro 20 (by decide), upd2_col _ _ _ _ (by decide), gTh_col (by decide), r44, ra3 21 (by decide) (by decide) (by decide), ra3 45 (by decide) (by decide) (by decide)]; exact m1
      · rw [ra3 39 (by decide) (by decide) (by decide), ra3 79 (by decide) (by decide) (by decide)]; exact m2
      · rw [upd2_row _ _ _ _ (by decide), gTh_row (by decide), ro 41 (by decide), upd2_col _ _ _ _ (by decide), gTh_col (by decide), r44, ra3 42 (by decide) (by decide) (by decide), ra3 80 (by decide) (by decide) (by decide)]; exact m3
      · rw [ra3 35 (by decide) (by decide) (by decide), ra3 71 (by decide) (by decide) (by decide), ra3 36 (by decide) (by decide) (by decide), ra3 72 (by decide) (by decide) (by decide)]; exact jDbl_up m4
      · rw [upd2_row _ _ _ _ (by decide), gTh_row (by decide), upd2_col _ _ _ _ (by decide), gTh_col (by decide), r44, r0' 17 (by decide)]; exact m5
      · rw [upd2_col _ _ _ _ (by decide), gTh_col (by decide), r44, ra3 37 (by decide) (by decide) (by decide), hG 73 (by decide) (by decide)]; exact i2
      · rw [ra3 68 (by decide) (by decide) (by decide)]; exact m7
      · refine jText_cg k9 (fun e he => ?_) ?_ (fun j hj => ra3 j ?_ ?_ ?_) rfl rfl
        · rw [upd2_row _ _ _ _ (by omega), gTh_row (by omega), ro (22 + 5 * e) (by simp only [List.mem_cons, List.not_mem_nil, or_false]; omega)]
        · rw [upd2_col _ _ _ _ (by decide), gTh_col (by decide), r44]
        · simp only [List.mem_cons, List.not_mem_nil, or_false] at hj; omega
        · simp only [List.mem_cons, List.not_mem_nil, or_false] at hj ⊢; omega
        · simp only [List.mem_cons, List.not_mem_nil, or_false] at hj; omega
      · refine jTh_set k10 ?_ ?_ (cR_to hR (fun s hs => ?_) (fun j h1 h2 => hG j h1 (by omega)) (ra2 19 (by decide) (by decide)) (fun s hs => ra2 (6 + 3 * s) ?_ ?_)) fx.1 (ra3 61 (by decide) (by decide) (by decide)) ?_
        · rw [upd2_row _ _ _ _ (by decide), gTh_row (by decide), r0' 1 (by decide)]
        · rw [upd2_col _ _ _ _ (by decide), gTh_col (by decide), r44]
        · rw [upd2_row _ _ _ _ (by omega), gTh_row (by omega)]
        · simp only [List.mem_cons, List.not_mem_nil, or_false]; omega
        · omega
        · exact jWk_cg i1 (hG 65 (by decide) (by decide)) (hG 66 (by decide) (by decide)) (hG 70 (by decide) (by decide))
      · refine jSa_cg k11 (Nat.le_refl _) ?_ ?_ (fun j hj => ra3 j ?_ ?_ ?_) (fun s hs => ?_) (fun t _ h5 => ?_) (jxp t4 s4 fx.1) fx.2
        · rw [upd2_row _ _ _ _ (by decide), gTh_row (by decide), r0' 3 (by decide)]
        · rw [upd2_col _ _ _ _ (by decide), gTh_col (by decide), r44]
        · simp only [List.mem_cons, List.not_mem_nil, or_false] at hj; omega
        · simp only [List.mem_cons, List.not_mem_nil, or_false] at hj ⊢; omega
        · simp only [List.mem_cons, List.not_mem_nil, or_false] at hj; omega
        · rw [ra2 (5 + 3 * s) (by simp only [List.mem_cons, List.not_mem_nil, or_false]; omega) (by omega), hag (5 + 3 * s) (by simp only [List.mem_cons, List.not_mem_nil, or_false]; omega)]
        · rw [hG 64 (by decide) (by decide), hG 65 (by decide) (by decide), hG 66 (by decide) (by decide)]
          exact i3 t h5
    · exact absurd ⟨k, hk, hTk, rfl⟩ hn
  · refine ⟨_, rfl, gHp_of k4, gE_mono (Nat.le_refl d) (m_weeks (by omega) t3 t1 k7 k5 h15 hh2 (kTx_gm hh2 hkx) t9 t10.1 _) ?_⟩
    rintro _ _ (⟨k', a2, hk', hTk', e1, hag2, rfl, rfl⟩ | ⟨hn', rfl, rfl⟩)
    · exact absurd ⟨k', hk', hTk', e1⟩ hn
    · exact ⟨rfl, J_of (jI_fr h0 jfw_Th gag_rf rfl (Nat.le_refl _) (by omega) (by omega))⟩
theorem j_sell (hd : 50 ≤ d) (hK : K ≤ 600) (h : J K y S) (v1 : Int32) : jTwo d K y 58 137 [.int v1] S := by
  obtain ⟨n, u, w, a, b, r, q, D, x, z, N, M, T, o, p, st, rfl, h0⟩ := h
  obtain ⟨k1, k2, k3, k4, k5, k6, k7, k8, k9, k10, k11⟩ := id h0
  obtain ⟨t1, t2, t3, t4, t5, t6, t7, t8, t9, t10⟩ := id k10
  obtain ⟨s1, s2, s3, s4, s5, s6, s7, s8⟩ := id k11
  obtain ⟨m1, m2, m3, m4, m5, m6, m7, m8⟩ := id k8
  have x1 : ∀ t, x (o t) 1 = a 61 t := t8.1 1 (by decide)
  have x4 : ∀ t, x (o t) 4 = a 64 t := t8.1 4 (by decide)
  have x5 : ∀ t, x (o t) 5 = a 65 t := t8.1 5 (by decide)
  have x6 : ∀ t, x (o t) 6 = a 66 t := t8.1 6 (by decide)
  have kx : ∀ t, t < N → gin (x (o t) 1) 8 := fun t ht => by rw [x1]; exact t9 t ht
  have sx : ∀ t, t < N → gin (x (o t) 5) 5 := fun t ht => by rw [x5]; exact t10.1 t ht
  have hst : ∀ j, j < M → gin (a 74 j) N := fun j hj => ⟨st j, (s4 j hj).2.2.2, (s5 j hj).2.1⟩
  have on : ∀ t, o t ≠ n := fun t e => by
    rcases Nat.lt_or_ge t N with c | c
    · have := t5 t c; omega
    · have := t6 t c; omega
  have pn : ∀ j, j < M → p j ≠ n := fun j hj e => by have := (s5 j hj).1; omega
  have opd : ∀ t j, j < M → o t ≠ p j := fun t j hj e => by
    have h2 := (s4 j hj).2.1
    rcases Nat.lt_or_ge t N with c | c
    · have h1 := (t4.1 t c).2.2
      rw [e, h2.2] at h1
      exact absurd h1 (by decide)
    · have := t6 t c
      have := h2.1
      omega
  refine gE_mono (Nat.le_refl d) (c_sell (by omega) t2 t1 s2 s1 k1 (by omega) t4 t5 kx sx v1) ?_
  rintro _ _ (⟨t, k, s, ht, hk, hs, rfl, e4, ek, es, hM, rfl, rfl⟩ | ⟨hn, rfl, rfl⟩)
  · rw [x4] at e4
    rw [x5] at es
    rw [x1] at ek
    rw [x5, x6, t8.2.1, k6]
    have hR := cR_leave (v := 5) t8 t4 ht hs e4 es (by decide) (by decide)
    have xn : upd2 (upd2 (gxu x n (gsan (a 65 t) (a 66 t) (gpr (a 68 k) (nI T) (a 66 t)) (nI T))) (o t) 8 (nI M)) (o t) 4 5 n = gsan (a 65 t) (a 66 t) (gpr (a 68 k) (nI T) (a 66 t)) (nI T) := by
      rw [upd2_row _ _ _ _ (on t).symm, upd2_row _ _ _ _ (on t).symm, gxu_s]
    have x8 : upd2 (upd2 (gxu x n (gsan (a 65 t) (a 66 t) (gpr (a 68 k) (nI T) (a 66 t)) (nI T))) (o t) 8 (nI M)) (o t) 4 5 (o t) 8 = nI M := by
      rw [upd2_col _ _ _ _ (by decide), upd2_same]
    have xoth : ∀ i, i ≠ o t → i ≠ n → upd2 (upd2 (gxu x n (gsan (a 65 t) (a 66 t) (gpr (a 68 k) (nI T) (a 66 t)) (nI T))) (o t) 8 (nI M)) (o t) 4 5 i = x i := fun i h1 h2 => by
      rw [upd2_row _ _ _ _ h1, upd2_row _ _ _ _ h1, gxu_o h2]
    have xlow : ∀ i, i < 8 → ∀ t', upd2 (upd2 (gxu x n (gsan (a 65 t) (a 66 t) (gpr (a 68 k) (nI T) (a 66 t)) (nI T))) (o t) 8 (nI M)) (o t) 4 5 (o t') i = upd2 x (o t) 4 5 (o t') i := fun i hi t' => by
      by_cases c : o t' = o t
      · rw [c, upd2_at x (o t) 4 5 i, upd2_at _ (o t) 4 5 i, upd2_col _ _ _ _ (by omega), gxu_o (on t)]
      · rw [xoth _ c (on t'), upd2_row _ _ _ _ c]
    generalize upd2 (upd2 (gxu x n (gsan (a 65 t) (a 66 t) (gpr (a 68 k) (nI T) (a 66 t)) (nI T))) (o t) 8 (nI M)) (o t) 4 5 = xx at xn x8 xoth xlow
    have hR1 := cRel_x xlow hR
    have q0 : ∀ l, l ≠ 3 → upd2 (upd2 w (4 + 3 * s) 1 (w (4 + 3 * s) 1 - 1)) 0 3 (nI (M + 1)) 0 l = w 0 l := fun l hl => by
      rw [upd2_col _ _ _ _ hl, upd2_row _ _ _ _ (by omega)]
    have q3 : upd2 (upd2 w (4 + 3 * s) 1 (w (4 + 3 * s) 1 - 1)) 0 3 (nI (M + 1)) 0 3 = nI (M + 1) := upd2_same _ _ _ _
    have qs : ∀ s', s' < 5 → upd2 (upd2 w (4 + 3 * s) 1 (w (4 + 3 * s) 1 - 1)) 0 3 (nI (M + 1)) (4 + 3 * s') = upd2 w (4 + 3 * s) 1 (w (4 + 3 * s) 1 - 1) (4 + 3 * s') := fun s' hs' => upd2_row _ _ _ _ (by omega)
    have qo : ∀ i, i ∈ [20, 22, 27, 41, 44] → upd2 (upd2 w (4 + 3 * s) 1 (w (4 + 3 * s) 1 - 1)) 0 3 (nI (M + 1)) i = w i := fun i hi => by
      simp only [List.mem_cons, List.not_mem_nil, or_false] at hi
      rw [upd2_row _ _ _ _ (by omega), upd2_row _ _ _ _ (by omega)]
    generalize upd2 (upd2 w (4 + 3 * s) 1 (w (4 + 3 * s) 1 - 1)) 0 3 (nI (M + 1)) = w1 at q0 q3 qs qo
    have r44 : w1 44 = w 44 := qo 44 (by decide)
    have so1 : ∀ i, 18 < i → upd2 a (5 + 3 * s) k (a (5 + 3 * s) k + 1) i = a i := fun i hi => upd2_row _ _ _ _ (by omega)
    have so6 : ∀ s', upd2 a (5 + 3 * s) k (a (5 + 3 * s) k + 1) (6 + 3 * s') = a (6 + 3 * s') := fun s' => upd2_row _ _ _ _ (by omega)
    have so5 : ∀ s' k', upd2 a (5 + 3 * s) k (a (5 + 3 * s) k + 1) (5 + 3 * s') k' = if s' = s ∧ k' = k then a (5 + 3 * s) k + 1 else a (5 + 3 * s') k' := fun s' k' => by
      by_cases c : s' = s
      · subst c
        rw [upd2_at]
        by_cases c2 : k' = k
        · rw [if_pos c2, if_pos ⟨rfl, c2⟩]
        · rw [if_neg c2, if_neg (fun h => c2 h.2)]
      · rw [upd2_row _ _ _ _ (by omega), if_neg (fun h => c h.1)]
    generalize upd2 a (5 + 3 * s) k (a (5 + 3 * s) k + 1) = a1 at so1 so6 so5
    refine ⟨_, rfl, gHp_of (by rw [gDu_o (by omega)]; exact k4), gE_mono (Nat.le_refl d) (m_sell (by omega) (by rw [r44]; exact t3) t1 (by rw [r44]; exact s3) s1 (fun t ht => by rw [so1 61 (by decide)]; exact t9 t ht) _) ?_⟩
    rintro _ _ (⟨t', k', ht', hk', e1, e4', ek', hM', rfl, rfl⟩ | ⟨hn, rfl, rfl⟩)
    · have e9 := nI_inj e1 (by omega) (by omega)
      subst e9
      rw [so1 61 (by decide)] at ek'
      have e9 := nI_inj (ek.symm.trans ek') (by omega) (by omega)
      subst e9
      rw [so1 68 (by decide), so1 66 (by decide), so1 65 (by decide), r44, k7]
      have ra : ∀ i, i ∉ [64, 74, 75, 76, 77] → upd2 (upd2 (upd2 (upd2 (upd2 a1 74 M (nI t)) 75 M (gpr (a 68 k) (nI T) (a 66 t))) 76 M (a 65 t)) 77 M (nI T)) 64 t 5 i = a1 i := fun i hi => by
        simp only [List.mem_cons, List.not_mem_nil, or_false, not_or] at hi
        rw [upd2_row _ _ _ _ hi.1, upd2_row _ _ _ _ hi.2.2.2.2, upd2_row _ _ _ _ hi.2.2.2.1, upd2_row _ _ _ _ hi.2.2.1, upd2_row _ _ _ _ hi.2.1]
      have A64 : upd2 (upd2 (upd2 (upd2 (upd2 a1 74 M (nI t)) 75 M (gpr (a 68 k) (nI T) (a 66 t))) 76 M (a 65 t)) 77 M (nI T)) 64 t 5 64 = upd2 a 64 t 5 64 := by
        funext i
        rw [upd2_at, upd2_at, upd2_row _ _ _ _ (by decide), upd2_row _ _ _ _ (by decide), upd2_row _ _ _ _ (by decide), upd2_row _ _ _ _ (by decide), so1 64 (by decide)]
      have A74 : ∀ i, upd2 (upd2 (upd2 (upd2 (upd2 a1 74 M (nI t)) 75 M (gpr (a 68 k) (nI T) (a 66 t))) 76 M (a 65 t)) 77 M (nI T)) 64 t 5 74 i = if i = M then nI t else a 74 i := fun i => by
        rw [upd2_row _ _ _ _ (by decide), upd2_row _ _ _ _ (by decide), upd2_row _ _ _ _ (by decide), upd2_row _ _ _ _ (by decide), upd2_at, so1 74 (by decide)]
      have A75 : ∀ i, upd2 (upd2 (upd2 (upd2 (upd2 a1 74 M (nI t)) 75 M (gpr (a 68 k) (nI T) (a 66 t))) 76 M (a 65 t)) 77 M (nI T)) 64 t 5 75 i = if i = M then gpr (a 68 k) (nI T) (a 66 t) else a 75 i := fun i => by
        rw [upd2_row _ _ _ _ (by decide), upd2_row _ _ _ _ (by decide), upd2_row _ _ _ _ (by decide), upd2_at, upd2_row _ _ _ _ (by decide), so1 75 (by decide)]
      have A76 : ∀ i, upd2 (upd2 (upd2 (upd2 (upd2 a1 74 M (nI t)) 75 M (gpr (a 68 k) (nI T) (a 66 t))) 76 M (a 65 t)) 77 M (nI T)) 64 t 5 76 i = if i = M then a 65 t else a 76 i := fun i => by
        rw [upd2_row _ _ _ _ (by decide), upd2_row _ _ _ _ (by decide), upd2_at, upd2_row _ _ _ _ (by decide), upd2_row _ _ _ _ (by decide), so1 76 (by decide)]
      have A77 : ∀ i, upd2 (upd2 (upd2 (upd2 (upd2 a1 74 M (nI t)) 75 M (gpr (a 68 k) (nI T) (a 66 t))) 76 M (a 65 t)) 77 M (nI T)) 64 t 5 77 i = if i = M then nI T else a 77 i := fun i => by
        rw [upd2_row _ _ _ _ (by decide), upd2_at, upd2_row _ _ _ _ (by decide), upd2_row _ _ _ _ (by decide), upd2_row _ _ _ _ (by decide), so1 77 (by decide)]
      generalize upd2 (upd2 (upd2 (upd2 (upd2 a1 74 M (nI t)) 75 M (gpr (a 68 k) (nI T) (a 66 t))) 76 M (a 65 t)) 77 M (nI T)) 64 t 5 = A at ra A64 A74 A75 A76 A77
      have ra1 : ∀ i, 18 < i → i ∉ [64, 74, 75, 76, 77] → A i = a i := fun i h1 h2 => (ra i h2).trans (so1 i h1)
      have A61 : A 61 = a 61 := ra1 61 (by decide) (by decide)
      have A65 : A 65 = a 65 := ra1 65 (by decide) (by decide)
      have A66 : A 66 = a 66 := ra1 66 (by decide) (by decide)
      have A78 : A 78 = a 78 := ra1 78 (by decide) (by decide)
      have w0 : ∀ l, upd2 (gTh w1) 44 41 (nI (M + 1)) 0 l = w1 0 l := fun l => by rw [upd2_row _ _ _ _ (by decide), gTh_row (by decide)]
      have w44 : ∀ l, l ≠ 0 → l ≠ 41 → upd2 (gTh w1) 44 41 (nI (M + 1)) 44 l = w 44 l := fun l h1 h2 => by rw [upd2_col _ _ _ _ h2, gTh_col h1, r44]
      have wo : ∀ i, i ≠ 44 → upd2 (gTh w1) 44 41 (nI (M + 1)) i = w1 i := fun i hi => by rw [upd2_row _ _ _ _ hi, gTh_row hi]
      refine ⟨rfl, J_of (N := N) (M := M + 1) (o := o) (p := jo p M n) (st := jo st M t) (jI_up h0 ?_ ?_ (fun i hi => ?_) (fun s' hs' => ?_) (fun j hj => ra1 j (by simp only [List.mem_cons, List.not_mem_nil, or_false] at hj; omega) (by simp only [List.mem_cons, List.not_mem_nil, or_false] at hj ⊢; omega)) (by omega) (by omega) (by omega) ?_ ?_ ?_)⟩
      · rw [w0, q0 16 (by decide)]
      · rw [w0, q0 17 (by decide)]
      · rw [wo i (fun e => absurd (e ▸ hi) (by decide))]
        exact qo i (by simp only [List.mem_cons, List.not_mem_nil, or_false] at hi ⊢; omega)
      · simp only [List.mem_cons, List.not_mem_nil, or_false] at hs'
        exact w44 s' (by omega) (by omega)
      · rw [gDu_o (by omega)]; exact k4
      · refine ⟨t1, by rw [w0, q0 1 (by decide)]; exact t2, by rw [w44 25 (by decide) (by decide)]; exact t3, ⟨fun i hi => ?_, t4.2⟩, fun i hi => ?_, t6, fun i => ?_, cR_to (a := a) hR1 (fun s' hs' => ?_) (fun i h1 h2 => ?_) (ra1 19 (by decide) (by decide)) (fun s' hs' => ?_), fun i hi => by rw [A61]; exact t9 i hi, jWk_cg t10 A65 A66 (ra1 70 (by decide) (by decide))⟩
        · refine ⟨(t4.1 i hi).1, (t4.1 i hi).2.1, ?_⟩
          rw [gDu_o (on i)]; exact (t4.1 i hi).2.2
        · have := t5 i hi; omega
        · rw [xoth 0 (fun e => by have := (t4.1 t ht).2.1; omega) (by omega)]; exact t7 i
        · rw [wo _ (by omega)]; exact qs s' hs'
        · by_cases c : i = 64
          · rw [c]; exact A64
          · rw [ra1 i (by omega) (by simp only [List.mem_cons, List.not_mem_nil, or_false]; omega), upd2_row _ _ _ _ c]
        · rw [ra (6 + 3 * s') (by simp only [List.mem_cons, List.not_mem_nil, or_false]; omega)]; exact so6 s'
      · refine ⟨by omega, by rw [w0]; exact q3, upd2_same _ _ _ _, fun j hj => ?_, fun j hj => ?_, fun j hj j' hj' e => ?_, fun j hj => ?_, fun s' k' hs' hk' => ?_⟩
        · by_cases c : j = M
          · subst c
            rw [jo_s, jo_s, gzu_s]
            exact ⟨upd2_same _ _ _ _, ⟨k1, gDu_s⟩, rfl, ht⟩
          · obtain ⟨g1, g2, g3, g4⟩ := s4 j (by omega)
            rw [jo_o c, jo_o c, gzu_o (pn j (by omega)), upd2_col _ _ _ _ c]
            exact ⟨g1, ⟨g2.1, by rw [gDu_o (pn j (by omega))]; exact g2.2⟩, g3, g4⟩
        · by_cases c : j = M
          · subst c
            unfold jSj
            rw [jo_s, jo_s, xn, A74, A75, A76, A77, A78, A65, A66, A64, if_pos rfl, if_pos rfl, if_pos rfl, if_pos rfl, s7 j (Nat.le_refl _)]
            exact ⟨by omega, rfl, rfl, rfl, rfl, rfl, ⟨s, hs, es⟩, Or.inl rfl, fun _ => ⟨rfl, rfl, upd2_same _ _ _ _, x8⟩⟩
          · have hjM : j < M := by omega
            obtain ⟨p1, p2, p3, p4, p5, p6, p7, p8, p9⟩ := s5 j hjM
            unfold jSj
            rw [jo_o c, jo_o c, xoth (p j) (opd t j hjM).symm (pn j hjM), A74, A75, A76, A77, A78, A65, A66, A64, if_neg c, if_neg c, if_neg c, if_neg c]
            refine ⟨by omega, p2, p3, p4, p5, p6, p7, p8, fun h => ?_⟩
            obtain ⟨q1, q2, q4, q5⟩ := p9 h
            have hne : st j ≠ t := fun e => by rw [e, e4] at q4; exact absurd q4 (by decide)
            refine ⟨q1, q2, ?_, ?_⟩
            · rw [upd2_col _ _ _ _ hne]; exact q4
            · rw [xoth (o (st j)) (fun e => hne (t4.2 t ht (st j) e)) (on (st j))]; exact q5
        · by_cases c : j = M
          · by_cases c' : j' = M
            · omega
            · rw [c, jo_s, jo_o c'] at e; exact absurd e (pn j' (by omega))
          · by_cases c' : j' = M
            · rw [c', jo_s, jo_o c] at e; exact absurd e.symm (pn j (by omega))
            · rw [jo_o c, jo_o c'] at e; exact s6 j (by omega) j' (by omega) e
        · rw [A78]; exact s7 j (by omega)
        · rw [ra (5 + 3 * s') (by simp only [List.mem_cons, List.not_mem_nil, or_false]; omega), so5]
          have hc1 := gSo_cg (a := a) (a' := A) (M := M) (fun j hj => by rw [A61]) (fun j hj => by rw [A74, if_neg (by omega)]) (fun j hj => by rw [A76, if_neg (by omega)]) (fun j hj => by rw [A78]) (nI k') (nI s')
          have hold := s8 s' k' hs' hk'
          simp only [gcnt]
          rw [hc1]
          have hcl : (nI t).toNatClampNeg = t := nI_clamp (by omega)
          by_cases c : s' = s ∧ k' = k
          · obtain ⟨rfl, rfl⟩ := c
            rw [if_pos ⟨rfl, rfl⟩, if_pos (show gSo A (nI k') (nI s') M from ⟨by rw [A78]; exact s7 M (Nat.le_refl _), by rw [A76, if_pos rfl]; exact es, by rw [A74, if_pos rfl, hcl, A61]; exact ek⟩), hold, nI_1]
          · rw [if_neg c, if_neg (fun h => ?_), Nat.add_zero]
            · exact hold
            · obtain ⟨h1, h2, h3⟩ := h
              have h2' : A 76 M = nI s' := h2
              have h3' : A 61 (A 74 M).toNatClampNeg = nI k' := h3
              rw [A76, if_pos rfl] at h2'
              rw [A74, if_pos rfl, hcl, A61] at h3'
              exact c ⟨nI_inj (h2'.symm.trans es) (by omega) (by omega), nI_inj (h3'.symm.trans ek) (by omega) (by omega)⟩
    · exact absurd ⟨⟨t, ht, rfl, by rw [so1 64 (by decide)]; exact e4⟩, hM⟩ hn
  · refine ⟨_, rfl, gHp_of k4, gE_mono (Nat.le_refl d) (m_sell (by omega) t3 t1 s3 s1 t9 _) ?_⟩
    rintro _ _ (⟨t', k', ht', hk', e1, e4', ek', hM', rfl, rfl⟩ | ⟨hn', rfl, rfl⟩)
    · exact absurd ⟨⟨t', ht', e1, by rw [x4]; exact e4'⟩, hM'⟩ hn
    · exact ⟨rfl, J_of (jI_fr h0 jfw_Th gag_rf rfl (Nat.le_refl _) (by omega) (by omega))⟩
end GJ10
