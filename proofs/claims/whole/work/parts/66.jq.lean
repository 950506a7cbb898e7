/-! ===== the calls that only answer ===== -/
theorem J_of {K n u : Nat} {y : gH} {w a : Nat → Nat → Int32} {b : Nat → Nat → Int64} {r : Nat → Nat → Nat} {q : Nat → Nat → Option Nat} {D : Nat → Nat} {x : Nat → Nat → Int32} {z : Nat → Nat} {N M T : Nat} {o p st : Nat → Nat} (h : jI K n u w a b r q D x z N M T o p st) : J K y (n, u, HP w a b r q (gY D x z y)) := ⟨n, u, w, a, b, r, q, D, x, z, N, M, T, o, p, st, rfl, h⟩
theorem gHp_of {n u : Nat} {y : gH} {w a : Nat → Nat → Int32} {b : Nat → Nat → Int64} {r : Nat → Nat → Nat} {q : Nat → Nat → Option Nat} {D : Nat → Nat} {x : Nat → Nat → Int32} {z : Nat → Nat} (h : D 1000000000 = 0) : gHp y (n, u, HP w a b r q (gY D x z y)) := ⟨n, u, w, a, b, r, q, D, x, z, rfl, h⟩
theorem gsum_congr {p p' : Nat → Prop} [DecidablePred p] [DecidablePred p'] {f f' : Nat → Int32} : ∀ n, (∀ i, i < n → (p i ↔ p' i)) → (∀ i, i < n → f i = f' i) → gsum p f n = gsum p' f' n := by
  intro n
  induction n with
  | zero => intro _ _; rfl
  | succ n ih =>
    intro h k
    simp only [gsum]
    rw [ih (fun i hi => h i (by omega)) (fun i hi => k i (by omega)), k n (by omega)]
    have := h n (by omega)
    by_cases e : p n
    · simp [e, this.mp e]
    · simp [e, mt this.mpr e]
theorem q_th {c j : Nat} (hc : c ≤ 100) (hj : j ≤ 100) : (if 0 < nI c - nI j then nI c - nI j else 0) = if nI j < nI c then nI c - nI j else 0 := by
  by_cases h : j < c
  · have h2 : (0 : Int32) < nI c - nI j := by
      rw [pk_sub (by omega)]; exact nI_lt (a := 0) (by omega) (by omega)
    rw [if_pos (nI_lt h (by omega)), if_pos h2]
  · have h2 : ¬ (0 : Int32) < nI c - nI j := by
      intro h2
      have := Int32.lt_iff_toInt_lt.mp h2
      rw [pk_sub_toInt (by omega) (by omega)] at this
      have e0 : (0 : Int32).toInt = 0 := by decide
      omega
    rw [if_neg (nI_nlt (by omega) (by omega)), if_neg h2]
theorem q_ha {ag db : Nat} (h1 : ag ≤ db) (h2 : db ≤ 1000) (h0 : ¬ nI db = 0) : ((nI ag).toInt64 * 1000 / (nI db).toInt64).toInt32 = nI ag * 1000 / nI db := by
  have hd : 0 < db := by
    rcases Nat.eq_zero_or_pos db with e | e
    · subst e; exact absurd rfl h0
    · exact e
  have e1 : (nI ag).toInt64 * 1000 = lN (ag * 1000) := by rw [nI_l (by omega)]; exact lN_mul ag 1000
  have e2 : nI ag * 1000 = nI (ag * 1000) := pk_mul ag 1000
  rw [e1, e2, nI_l (by omega), pk_lDiv (by omega) hd (by omega), lN_i, pk_div (by omega) hd (by omega)]
theorem q_wo {P so la : Nat} (hP : P ≤ 10000) (hs : so ≤ 200) (hl : la < 100000) : cwo (nI P) (nI so) (nI la) = gwo (nI P) so la ∧ ∃ g, g < 2 ^ 30 ∧ gwo (nI P) so la = nI g := by
  have hm : P * (so + 1) ≤ 10000 * 201 := Nat.mul_le_mul hP (by omega)
  have e1 : nI so + 1 = nI (so + 1) := nI_1 so
  have e2 : nI so + nI la + 2 = nI (so + la + 2) := by rw [nI_add]; exact nI_add (so + la) 2
  have e3 : gwo (nI P) so la = nI (P * (so + 1) / (so + la + 2)) := by
    unfold gwo
    rw [e1, e2, nI_l (by omega), nI_l (by omega), nI_l (by omega), lN_mul, pk_lDiv (by omega) (by omega) (by omega), lN_i]
  refine ⟨?_, P * (so + 1) / (so + la + 2), Nat.lt_of_le_of_lt (Nat.div_le_self _ _) (by omega), e3⟩
  rw [e3]
  unfold cwo
  rw [e1, e2, pk_mul, pk_div (by omega) (by omega) (by omega)]
theorem q_pr {c T s : Nat} (hc : c ≤ 10000) (hT : T ≤ 519) (hs : s ≤ T) : ∃ P, P ≤ 10000 ∧ gpr (nI c) (nI T) (nI s) = nI P := by
  unfold gpr
  rw [pk_sub hs]
  have hd : T - s ≤ 519 := by omega
  generalize T - s = d at hd
  have e2 : (2 : Int32) * nI d = nI (2 * d) := pk_mul 2 d
  rw [e2]
  rcases Nat.lt_or_ge 10 (2 * d) with h | h
  · have hn : ¬ (1 : Int32) ≤ nI c * (10 - nI (2 * d)) / 10 := by
      have hm : c * (2 * d - 10) ≤ 10000 * 1028 := Nat.mul_le_mul hc (by omega)
      have e3 : (10 : Int32) - nI (2 * d) = -(nI (2 * d - 10)) := by
        have e4 : nI (2 * d) - 10 = nI (2 * d - 10) := pk_sub (a := 2 * d) (b := 10) (by omega)
        rw [← e4, Int32.neg_sub]
      rw [e3, Int32.mul_neg, pk_mul]
      generalize c * (2 * d - 10) = m at hm
      intro hle
      have h1 := Int32.le_iff_toInt_le.mp hle
      rw [Int32.toInt_div_of_ne_right _ _ (by decide), Int32.toInt_neg, nI_toInt (by omega), Int.bmod_eq_of_le (by omega) (by omega), Int.neg_tdiv] at h1
      have h2 := Int.tdiv_nonneg (a := (m : Int)) (b := (10 : Int32).toInt) (by omega) (by decide)
      have e0 : (1 : Int32).toInt = 1 := by decide
      omega
    rw [if_neg hn]
    exact ⟨1, by omega, rfl⟩
  · have e3 : (10 : Int32) - nI (2 * d) = nI (10 - 2 * d) := pk_sub (a := 10) h
    have hm : c * (10 - 2 * d) ≤ 10000 * 10 := Nat.mul_le_mul hc (by omega)
    have e4 : nI (c * (10 - 2 * d)) / 10 = nI (c * (10 - 2 * d) / 10) := pk_div (d := 10) (by omega) (by omega) (by omega)
    rw [e3, pk_mul, e4]
    split
    · exact ⟨_, by omega, rfl⟩
    · exact ⟨1, by omega, rfl⟩
theorem q_best {rm rm' : Nat → Prop} [DecidablePred rm] [DecidablePred rm'] {sh : Int32} {wo wo' : Nat → Int32} (hrm : ∀ s, s < 5 → (rm s ↔ rm' s)) (hwo : ∀ s, s < 5 → wo s = wo' s ∧ ∃ g, g < 2 ^ 30 ∧ wo' s = nI g) : ∀ n, n ≤ 5 → (cbest rm sh wo n).1 = (gbest rm' sh wo' n).1 ∧ (((gbest rm' sh wo' n).1 = -1 ∧ (cbest rm sh wo n).2 = -1) ∨ (¬ (gbest rm' sh wo' n).1 < 0 ∧ ¬ (gbest rm' sh wo' n).1 = -1 ∧ (cbest rm sh wo n).2 = (gbest rm' sh wo' n).2)) := by
  intro n
  induction n with
  | zero => intro _; exact ⟨rfl, Or.inl ⟨rfl, rfl⟩⟩
  | succ n ih =>
    intro hn
    obtain ⟨i1, i2⟩ := ih (by omega)
    obtain ⟨w1, g, hg, w2⟩ := hwo n (by omega)
    have hr := hrm n (by omega)
    simp only [cbest, gbest]
    have hpos : ¬ nI n < 0 := nI_pos (by omega)
    have hm1 : ¬ nI n = -1 := fun e => hpos (by rw [e]; decide)
    have both : ((¬ nI n = sh ∧ rm n ∧ (cbest rm sh wo n).2 < wo n) ↔ (¬ nI n = sh ∧ rm' n ∧ ((gbest rm' sh wo' n).1 < 0 ∨ (gbest rm' sh wo' n).2 < wo' n))) := by
      rcases i2 with ⟨j1, j2⟩ | ⟨j1, j2, j3⟩
      · rw [j1, j2, hr]
        have c1 : (-1 : Int32) < wo n := by
          rw [w1, w2]
          exact Int32.lt_iff_toInt_lt.mpr (by rw [nI_toInt (by omega)]; have : (-1 : Int32).toInt = -1 := by decide
                                              omega)
        have c2 : (-1 : Int32) < 0 := by decide
        exact ⟨fun h => ⟨h.1, h.2.1, Or.inl c2⟩, fun h => ⟨h.1, h.2.1, c1⟩⟩
      · rw [j3, hr, w1]
        exact ⟨fun h => ⟨h.1, h.2.1, Or.inr h.2.2⟩, fun h => ⟨h.1, h.2.1, h.2.2.resolve_left j1⟩⟩
    by_cases c : ¬ nI n = sh ∧ rm n ∧ (cbest rm sh wo n).2 < wo n
    · rw [if_pos c, if_pos (both.mp c)]
      exact ⟨rfl, Or.inr ⟨hpos, hm1, w1⟩⟩
    · rw [if_neg c, if_neg (mt both.mpr c)]
      exact ⟨i1, i2⟩
theorem q_where {rm rm' : Nat → Prop} [DecidablePred rm] [DecidablePred rm'] {sh : Int32} {wo wo' : Nat → Int32} {stay stay' cost cost' : Int32} (hrm : ∀ s, s < 5 → (rm s ↔ rm' s)) (hwo : ∀ s, s < 5 → wo s = wo' s ∧ ∃ g, g < 2 ^ 30 ∧ wo' s = nI g) (h1 : stay = stay') (h2 : cost = cost') : cwhere rm sh wo stay cost = gwhere rm' sh wo' stay' cost' := by
  subst h1; subst h2
  obtain ⟨i1, i2⟩ := q_best (sh := sh) hrm hwo 5 (Nat.le_refl _)
  unfold cwhere gwhere
  rw [i1]
  rcases i2 with ⟨j1, j2⟩ | ⟨j1, j2, j3⟩
  · rw [if_neg (fun h => h.1 j1), if_neg (fun h => h.1 (by rw [j1]; decide))]
  · rw [j3]
    by_cases c : cost < (gbest rm' sh wo' 5).2 - stay
    · rw [if_pos ⟨j2, c⟩, if_pos ⟨j1, c⟩]
    · rw [if_neg (fun h => c h.2), if_neg (fun h => c h.2)]
section GJ3
variable {d K : Nat} {y : gH} {S : gS}
section GJ4
variable {n u : Nat} {w a : Nat → Nat → Int32} {b : Nat → Nat → Int64} {r : Nat → Nat → Nat} {q : Nat → Nat → Option Nat} {D : Nat → Nat} {x : Nat → Nat → Int32} {z : Nat → Nat} {N M T : Nat} {o p st : Nat → Nat}
abbrev jLa (a : Nat → Nat → Int32) : Nat → Nat := fun i => (a 70 i).toNatClampNeg
theorem j_la (h : jI K n u w a b r q D x z N M T o p st) : ∀ i, i < 40 → a 70 i = nI (jLa a i) ∧ jLa a i < 100000 := by
  intro i hi
  obtain ⟨k1, k2, k3, k4, k5, k6, k7, k8, k9, k10, k11⟩ := h
  obtain ⟨l, hl, e⟩ := k10.2.2.2.2.2.2.2.2.2.2.2 i hi
  have : jLa a i = l := by show (a 70 i).toNatClampNeg = l; rw [e]; exact nI_clamp (by omega)
  rw [this]
  exact ⟨e, by omega⟩
theorem j_so (h : jI K n u w a b r q D x z N M T o p st) {s k : Nat} (hs : s < 5) (hk : k < 8) : a (5 + 3 * s) k = nI (gcnt (gSo a (nI k) (nI s)) M) ∧ gcnt (gSo a (nI k) (nI s)) M ≤ 200 ∧ a (6 + 3 * s) k = nI (jLa a (8 * s + k)) := by
  have hl := j_la h (8 * s + k) (by omega)
  obtain ⟨k1, k2, k3, k4, k5, k6, k7, k8, k9, k10, k11⟩ := h
  refine ⟨k11.2.2.2.2.2.2.2 s k hs hk, Nat.le_trans (gcnt_le _ _) k11.1, ?_⟩
  rw [k10.2.2.2.2.2.2.2.1.2.2.2.1 s k hs hk]
  exact hl.1
theorem j_ne (h : jI K n u w a b r q D x z N M T o p st) : ∀ s k, s < 5 → k < 8 → ¬ a (5 + 3 * s) k + a (6 + 3 * s) k + 2 = 0 := by
  intro s k hs hk
  obtain ⟨e1, e2, e3⟩ := j_so h hs hk
  have hl := (j_la h (8 * s + k) (by omega)).2
  rw [e1, e3, nI_add]
  have e4 : nI (gcnt (gSo a (nI k) (nI s)) M + jLa a (8 * s + k)) + 2 = nI (gcnt (gSo a (nI k) (nI s)) M + jLa a (8 * s + k) + 2) := nI_add _ 2
  rw [e4]
  exact nI_ne0 (by omega) (by omega)
theorem j_wo (h : jI K n u w a b r q D x z N M T o p st) {s k P : Nat} (hs : s < 5) (hk : k < 8) (hP : P ≤ 10000) : cwo (nI P) (a (5 + 3 * s) k) (a (6 + 3 * s) k) = gwo (nI P) (gcnt (gSo a (nI k) (nI s)) M) (jLa a (8 * s + k)) ∧ ∃ g, g < 2 ^ 30 ∧ gwo (nI P) (gcnt (gSo a (nI k) (nI s)) M) (jLa a (8 * s + k)) = nI g := by
  obtain ⟨e1, e2, e3⟩ := j_so h hs hk
  rw [e1, e3]
  exact q_wo hP e2 (j_la h (8 * s + k) (by omega)).2
theorem j_wh (h : jI K n u w a b r q D x z N M T o p st) {t k s : Nat} (ht : t < N) (hk : k < 8) (hs : s < 5) : cwh (w 0) w a x k (o t) s = gwh (w 44) a N M (jLa a) t k s := by
  have h0 := h
  obtain ⟨k1, k2, k3, k4, k5, k6, k7, k8, k9, k10, k11⟩ := h
  have hR := k10.2.2.2.2.2.2.2.1
  obtain ⟨c, hc1, hc2, hc⟩ := k8.2.2.2.2.2.2.1 k hk
  have e19 : a 19 k = nI c := by rw [hR.2.1]; exact hc
  obtain ⟨sc, hsc, esc⟩ := k10.2.2.2.2.2.2.2.2.2.2.1 t ht
  obtain ⟨P, hP, eP⟩ := q_pr hc2 k5 hsc
  have x6 : x (o t) 6 = nI sc := (hR.1 6 (by decide) t).trans esc
  unfold cwh gwh
  refine q_where (fun s' hs' => ?_) (fun s' hs' => ?_) ?_ k8.2.2.2.2.1
  · rw [hR.2.2.2.2.1 s' hs', hR.2.2.1 s' hs']
  · show cwo (a 19 k) _ _ = gwo (a 68 k) _ _ ∧ _
    rw [e19, hc]
    exact j_wo h0 hs' hk hc2
  · rw [e19, hc, k6, k7, x6, esc, eP]
    exact (j_wo h0 hs hk hP).1
end GJ4
theorem j_price (hd : 50 ≤ d) (h : J K y S) (v1 : Int32) : jTwo d K y 55 134 [.int v1] S := by
  obtain ⟨n, u, w, a, b, r, q, D, x, z, N, M, T, o, p, st, rfl, h0⟩ := h
  obtain ⟨k1, k2, k3, k4, k5, k6, k7, k8, k9, k10, k11⟩ := id h0
  obtain ⟨t1, t2, t3, t4, t5, t6, t7, t8, t9, t10⟩ := id k10
  obtain ⟨s1, s2, s3, s4, s5, s6, s7, s8⟩ := id k11
  obtain ⟨m1, m2, m3, m4, m5, m6, m7, m8⟩ := id k8
  have x1 : ∀ t, x (o t) 1 = a 61 t := t8.1 1 (by decide)
  have x4 : ∀ t, x (o t) 4 = a 64 t := t8.1 4 (by decide)
  have x5 : ∀ t, x (o t) 5 = a 65 t := t8.1 5 (by decide)
  have x6 : ∀ t, x (o t) 6 = a 66 t := t8.1 6 (by decide)
  have kx : ∀ t, t < N → gin (x (o t) 1) 8 := fun t ht => by rw [x1]; exact t9 t ht
  have sx : ∀ t, t < N → gin (x (o t) 5) 5 := fun t ht => by rw [x5]; exact t10.1 t ht
  have hst : ∀ j, j < M → gin (a 74 j) N := fun j hj => ⟨st j, (s4 j hj).2.2.2, (s5 j hj).2.1⟩
  refine gE_mono (Nat.le_refl d) (c_price (by omega) t2 t1 t4 kx v1) ?_
  rintro _ _ ⟨rfl, ⟨t, k, ht, hk, rfl, e4, ek, rfl⟩ | ⟨hn, rfl⟩⟩
  · refine ⟨_, rfl, gHp_of k4, gE_mono (Nat.le_refl d) (m_price (by omega) t3 t1 t9 _) ?_⟩
    rintro _ _ ⟨rfl, ⟨t', k', ht', hk', e1, e4', ek', rfl⟩ | ⟨hn, rfl⟩⟩
    · have e := nI_inj e1 (by omega) (by omega)
      subst e
      rw [x1] at ek
      have e := nI_inj (ek.symm.trans ek') (by omega) (by omega)
      subst e
      refine ⟨?_, J_of (jI_fr h0 jfw_Th gag_rf rfl (Nat.le_refl _) (by omega) (by omega))⟩
      rw [t8.2.1, k6, k7, x6]
    · exact absurd ⟨t, ht, rfl, by rw [← x4]; exact e4⟩ hn
  · refine ⟨_, rfl, gHp_of k4, gE_mono (Nat.le_refl d) (m_price (by omega) t3 t1 t9 _) ?_⟩
    rintro _ _ ⟨rfl, ⟨t', k', ht', hk', e1, e4', ek', rfl⟩ | ⟨hn', rfl⟩⟩
    · exact absurd ⟨t', ht', e1, by rw [x4]; exact e4'⟩ hn
    · exact ⟨rfl, J_of (jI_fr h0 jfw_Th gag_rf rfl (Nat.le_refl _) (by omega) (by omega))⟩
theorem j_thefts (hd : 50 ≤ d) (h : J K y S) (v1 v2 : Int32) : jTwo d K y 62 140 [.int v1, .int v2] S := by
  obtain ⟨n, u, w, a, b, r, q, D, x, z, N, M, T, o, p, st, rfl, h0⟩ := h
  obtain ⟨k1, k2, k3, k4, k5, k6, k7, k8, k9, k10, k11⟩ := id h0
  obtain ⟨t1, t2, t3, t4, t5, t6, t7, t8, t9, t10⟩ := id k10
  obtain ⟨s1, s2, s3, s4, s5, s6, s7, s8⟩ := id k11
  obtain ⟨m1, m2, m3, m4, m5, m6, m7, m8⟩ := id k8
  have x1 : ∀ t, x (o t) 1 = a 61 t := t8.1 1 (by decide)
  have x4 : ∀ t, x (o t) 4 = a 64 t := t8.1 4 (by decide)
  have x5 : ∀ t, x (o t) 5 = a 65 t := t8.1 5 (by decide)
  have x6 : ∀ t, x (o t) 6 = a 66 t := t8.1 6 (by decide)
  have kx : ∀ t, t < N → gin (x (o t) 1) 8 := fun t ht => by rw [x1]; exact t9 t ht
  have sx : ∀ t, t < N → gin (x (o t) 5) 5 := fun t ht => by rw [x5]; exact t10.1 t ht
  have hst : ∀ j, j < M → gin (a 74 j) N := fun j hj => ⟨st j, (s4 j hj).2.2.2, (s5 j hj).2.1⟩
  refine gE_mono (Nat.le_refl d) (c_thefts (by omega) v1 v2) ?_
  rintro _ _ ⟨rfl, ⟨s, hs, rfl, ⟨j, hj, rfl⟩, rfl⟩ | ⟨hn, rfl⟩⟩
  · refine ⟨_, rfl, gHp_of k4, gE_mono (Nat.le_refl d) (m_thefts (by omega) t3 t1 _ _) ?_⟩
    rintro _ _ ⟨rfl, ⟨g1, g2, rfl⟩ | ⟨hn, rfl⟩⟩
    · refine ⟨?_, J_of (jI_fr h0 jfw_Th gag_rf rfl (Nat.le_refl _) (by omega) (by omega))⟩
      rw [t8.2.2.2.2.2 s hs, q_th (Nat.le_trans (gcnt_le _ _) t1) (by omega)]
    · exact absurd ⟨⟨s, hs, rfl⟩, ⟨j, hj, rfl⟩⟩ hn
  · refine ⟨_, rfl, gHp_of k4, gE_mono (Nat.le_refl d) (m_thefts (by omega) t3 t1 _ _) ?_⟩
    rintro _ _ ⟨rfl, ⟨g1, g2, rfl⟩ | ⟨hn', rfl⟩⟩
    · exact absurd ⟨g1, g2⟩ hn
    · exact ⟨rfl, J_of (jI_fr h0 jfw_Th gag_rf rfl (Nat.le_refl _) (by omega) (by omega))⟩
theorem j_habit (hd : 50 ≤ d) (hK : K ≤ 600) (h : J K y S) (v1 : Int32) : jTwo d K y 48 130 [.int v1] S := by
  obtain ⟨n, u, w, a, b, r, q, D, x, z, N, M, T, o, p, st, rfl, h0⟩ := h
  obtain ⟨k1, k2, k3, k4, k5, k6, k7, k8, k9, k10, k11⟩ := id h0
  obtain ⟨t1, t2, t3, t4, t5, t6, t7, t8, t9, t10⟩ := id k10
  obtain ⟨s1, s2, s3, s4, s5, s6, s7, s8⟩ := id k11
  obtain ⟨m1, m2, m3, m4, m5, m6, m7, m8⟩ := id k8
  have x1 : ∀ t, x (o t) 1 = a 61 t := t8.1 1 (by decide)
  have x4 : ∀ t, x (o t) 4 = a 64 t := t8.1 4 (by decide)
  have x5 : ∀ t, x (o t) 5 = a 65 t := t8.1 5 (by decide)
  have x6 : ∀ t, x (o t) 6 = a 66 t := t8.1 6 (by decide)
  have kx : ∀ t, t < N → gin (x (o t) 1) 8 := fun t ht => by rw [x1]; exact t9 t ht
  have sx : ∀ t, t < N → gin (x (o t) 5) 5 := fun t ht => by rw [x5]; exact t10.1 t ht
  have hst : ∀ j, j < M → gin (a 74 j) N := fun j hj => ⟨st j, (s4 j hj).2.2.2, (s5 j hj).2.1⟩
  refine gE_mono (Nat.le_refl d) (c_habit (by omega) v1 (fun j hj => by
    obtain ⟨db, ag, g1, g2, g3, g4⟩ := m4.2.2 j hj
    rw [g3]; exact nI_pos (by omega))) ?_
  rintro _ _ ⟨rfl, ⟨j, hj, rfl, hz, rfl⟩ | ⟨hn, rfl⟩⟩
  · refine ⟨_, rfl, gHp_of k4, gE_mono (Nat.le_refl d) (m_habit (by omega) _) ?_⟩
    rintro _ _ ⟨rfl, ⟨j', hj', e1, hz', rfl⟩ | ⟨hn, rfl⟩⟩
    · have e := nI_inj e1 (by omega) (by omega)
      subst e
      refine ⟨?_, J_of (jI_fr h0 jfw_Th gag_rf rfl (Nat.le_refl _) (by omega) (by omega))⟩
      obtain ⟨db, ag, g1, g2, g3, g4⟩ := m4.2.2 j hj
      rw [← m4.1, ← m4.2.1]
      rw [g3] at hz
      rw [g3, g4, q_ha g1 (by omega) hz]
    · exact absurd ⟨j, hj, rfl, by rw [← m4.1]; exact hz⟩ hn
  · refine ⟨_, rfl, gHp_of k4, gE_mono (Nat.le_refl d) (m_habit (by omega) _) ?_⟩
    rintro _ _ ⟨rfl, ⟨j', hj', e1, hz', rfl⟩ | ⟨hn', rfl⟩⟩
    · exact absurd ⟨j', hj', e1, by rw [m4.1]; exact hz'⟩ hn
    · exact ⟨rfl, J_of (jI_fr h0 jfw_Th gag_rf rfl (Nat.le_refl _) (by omega) (by omega))⟩
theorem j_worth (hd : 50 ≤ d) (h : J K y S) (v1 v2 : Int32) : jTwo d K y 63 141 [.int v1, .int v2] S := by
  obtain ⟨n, u, w, a, b, r, q, D, x, z, N, M, T, o, p, st, rfl, h0⟩ := h
  obtain ⟨k1, k2, k3, k4, k5, k6, k7, k8, k9, k10, k11⟩ := id h0
  obtain ⟨t1, t2, t3, t4, t5, t6, t7, t8, t9, t10⟩ := id k10
  obtain ⟨s1, s2, s3, s4, s5, s6, s7, s8⟩ := id k11
  obtain ⟨m1, m2, m3, m4, m5, m6, m7, m8⟩ := id k8
  have x1 : ∀ t, x (o t) 1 = a 61 t := t8.1 1 (by decide)
  have x4 : ∀ t, x (o t) 4 = a 64 t := t8.1 4 (by decide)
  have x5 : ∀ t, x (o t) 5 = a 65 t := t8.1 5 (by decide)
  have x6 : ∀ t, x (o t) 6 = a 66 t := t8.1 6 (by decide)
  have kx : ∀ t, t < N → gin (x (o t) 1) 8 := fun t ht => by rw [x1]; exact t9 t ht
  have sx : ∀ t, t < N → gin (x (o t) 5) 5 := fun t ht => by rw [x5]; exact t10.1 t ht
  have hst : ∀ j, j < M → gin (a 74 j) N := fun j hj => ⟨st j, (s4 j hj).2.2.2, (s5 j hj).2.1⟩
  refine gE_mono (Nat.le_refl d) (c_worth (by omega) t2 t1 t4 kx (j_ne h0) v1 v2) ?_
  rintro _ _ ⟨rfl, ⟨t, k, s, ht, hk, hs, rfl, ek, rfl, rfl⟩ | ⟨hn, rfl⟩⟩
  · refine ⟨_, rfl, gHp_of k4, gE_mono (Nat.le_refl d) (m_worth (by omega) t3 t1 s3 s1 t9 hst (jLa a) (j_la h0) _ _) ?_⟩
    rintro _ _ ⟨rfl, ⟨t', k', s', ht', hk', hs', e1, ek', e2, rfl⟩ | ⟨hn, rfl⟩⟩
    · have e := nI_inj e1 (by omega) (by omega)
      subst e
      have e := nI_inj e2 (by omega) (by omega)
      subst e
      rw [x1] at ek
      have e := nI_inj (ek.symm.trans ek') (by omega) (by omega)
      subst e
      refine ⟨?_, J_of (jI_fr h0 jfw_Th gag_rf rfl (Nat.le_refl _) (by omega) (by omega))⟩
      obtain ⟨c, hc1, hc2, hc⟩ := m7 k hk
      have e19 : a 19 k = nI c := by rw [t8.2.1]; exact hc
      rw [e19, hc, (j_wo h0 hs hk hc2).1]
    · exact absurd ⟨⟨t, ht, rfl⟩, ⟨s, hs, rfl⟩⟩ hn
  · refine ⟨_, rfl, gHp_of k4, gE_mono (Nat.le_refl d) (m_worth (by omega) t3 t1 s3 s1 t9 hst (jLa a) (j_la h0) _ _) ?_⟩
    rintro _ _ ⟨rfl, ⟨t', k', s', ht', hk', hs', e1, ek', e2, rfl⟩ | ⟨hn', rfl⟩⟩
    · exact absurd ⟨⟨t', ht', e1⟩, ⟨s', hs', e2⟩⟩ hn
    · exact ⟨rfl, J_of (jI_fr h0 jfw_Th gag_rf rfl (Nat.le_refl _) (by omega) (by omega))⟩
theorem j_where (hd : 50 ≤ d) (h : J K y S) (v1 : Int32) : jTwo d K y 66 143 [.int v1] S := by
  obtain ⟨n, u, w, a, b, r, q, D, x, z, N, M, T, o, p, st, rfl, h0⟩ := h
  obtain ⟨k1, k2, k3, k4, k5, k6, k7, k8, k9, k10, k11⟩ := id h0
  obtain ⟨t1, t2, t3, t4, t5, t6, t7, t8, t9, t10⟩ := id k10
  obtain ⟨s1, s2, s3, s4, s5, s6, s7, s8⟩ := id k11
  obtain ⟨m1, m2, m3, m4, m5, m6, m7, m8⟩ := id k8
  have x1 : ∀ t, x (o t) 1 = a 61 t := t8.1 1 (by decide)
  have x4 : ∀ t, x (o t) 4 = a 64 t := t8.1 4 (by decide)
  have x5 : ∀ t, x (o t) 5 = a 65 t := t8.1 5 (by decide)
  have x6 : ∀ t, x (o t) 6 = a 66 t := t8.1 6 (by decide)
  have kx : ∀ t, t < N → gin (x (o t) 1) 8 := fun t ht => by rw [x1]; exact t9 t ht
  have sx : ∀ t, t < N → gin (x (o t) 5) 5 := fun t ht => by rw [x5]; exact t10.1 t ht
  have hst : ∀ j, j < M → gin (a 74 j) N := fun j hj => ⟨st j, (s4 j hj).2.2.2, (s5 j hj).2.1⟩
  refine gE_mono (Nat.le_refl d) (c_where (by omega) t2 t1 t4 kx sx (j_ne h0) v1) ?_
  rintro _ _ ⟨rfl, ⟨t, k, s, ht, hk, hs, rfl, e4, ek, es, rfl⟩ | ⟨hn, rfl⟩⟩
  · refine ⟨_, rfl, gHp_of k4, gE_mono (Nat.le_refl d) (m_where (by omega) t3 t1 s3 s1 hst (jLa a) (j_la h0) t9 t10.1 _) ?_⟩
    rintro _ _ ⟨rfl, ⟨t', k', s', ht', hk', hs', e1, e4', ek', es', rfl⟩ | ⟨hn, rfl⟩⟩
    · have e := nI_inj e1 (by omega) (by omega)
      subst e
      rw [x1] at ek
      rw [x5] at es
      have e := nI_inj (ek.symm.trans ek') (by omega) (by omega)
      subst e
      have e := nI_inj (es.symm.trans es') (by omega) (by omega)
      subst e
      exact ⟨by rw [j_wh h0 ht hk hs], J_of (jI_fr h0 jfw_Th gag_rf rfl (Nat.le_refl _) (by omega) (by omega))⟩
    · exact absurd ⟨t, ht, rfl, by rw [← x4]; exact e4⟩ hn
  · refine ⟨_, rfl, gHp_of k4, gE_mono (Nat.le_refl d) (m_where (by omega) t3 t1 s3 s1 hst (jLa a) (j_la h0) t9 t10.1 _) ?_⟩
    rintro _ _ ⟨rfl, ⟨t', k', s', ht', hk', hs', e1, e4', ek', es', rfl⟩ | ⟨hn', rfl⟩⟩
    · exact absurd ⟨t', ht', e1, by rw [x4]; exact e4'⟩ hn
    · exact ⟨rfl, J_of (jI_fr h0 jfw_Th gag_rf rfl (Nat.le_refl _) (by omega) (by omega))⟩
theorem j_round (hd : 50 ≤ d) (h : J K y S) (v1 : Int32) : jTwo d K y 72 148 [.int v1] S := by
  obtain ⟨n, u, w, a, b, r, q, D, x, z, N, M, T, o, p, st, rfl, h0⟩ := h
  obtain ⟨k1, k2, k3, k4, k5, k6, k7, k8, k9, k10, k11⟩ := id h0
  obtain ⟨t1, t2, t3, t4, t5, t6, t7, t8, t9, t10⟩ := id k10
  obtain ⟨s1, s2, s3, s4, s5, s6, s7, s8⟩ := id k11
  obtain ⟨m1, m2, m3, m4, m5, m6, m7, m8⟩ := id k8
  have x1 : ∀ t, x (o t) 1 = a 61 t := t8.1 1 (by decide)
  have x4 : ∀ t, x (o t) 4 = a 64 t := t8.1 4 (by decide)
  have x5 : ∀ t, x (o t) 5 = a 65 t := t8.1 5 (by decide)
  have x6 : ∀ t, x (o t) 6 = a 66 t := t8.1 6 (by decide)
  have kx : ∀ t, t < N → gin (x (o t) 1) 8 := fun t ht => by rw [x1]; exact t9 t ht
  have sx : ∀ t, t < N → gin (x (o t) 5) 5 := fun t ht => by rw [x5]; exact t10.1 t ht
  have hst : ∀ j, j < M → gin (a 74 j) N := fun j hj => ⟨st j, (s4 j hj).2.2.2, (s5 j hj).2.1⟩
  obtain ⟨e39, wy, y1, y2, y3⟩ := m2
  have y79 : ∀ a', a' 79 = a 79 → gwy a' 79 wy := fun a' ea i hi j hj => by rw [ea, ← e39]; exact y1 i hi j hj
  refine gE_mono (Nat.le_refl d) (c_round (by omega) y1 y2 y3 v1) ?_
  rintro _ _ (⟨P, a', hP, rfl, rfl, hag, rfl⟩ | ⟨hn, rfl, rfl⟩)
  · refine ⟨_, rfl, gHp_of k4, gE_mono (Nat.le_refl d) (m_round (by omega) (y79 a' (hag 79 (by decide))) y2 _) ?_⟩
    rintro _ _ ⟨rfl, ⟨P', hP', e1, rfl⟩ | ⟨hn, rfl⟩⟩
    · have e := nI_inj e1 (by omega) (by omega)
      subst e
      exact ⟨rfl, J_of (jI_fr h0 jfw_Th (gag_sub hag (by decide)) rfl (Nat.le_refl _) (by omega) (by omega))⟩
    · exact absurd ⟨P, hP, rfl⟩ hn
  · refine ⟨_, rfl, gHp_of k4, gE_mono (Nat.le_refl d) (m_round (by omega) (y79 a rfl) y2 _) ?_⟩
    rintro _ _ ⟨rfl, ⟨P', hP', e1, rfl⟩ | ⟨hn', rfl⟩⟩
    · exact absurd ⟨P', hP', e1⟩ hn
    · exact ⟨rfl, J_of (jI_fr h0 jfw_Th gag_rf rfl (Nat.le_refl _) (by omega) (by omega))⟩
theorem j_least (hd : 50 ≤ d) (h : J K y S) (v1 : Int32) : jTwo d K y 78 151 [.int v1] S := by
  obtain ⟨n, u, w, a, b, r, q, D, x, z, N, M, T, o, p, st, rfl, h0⟩ := h
  obtain ⟨k1, k2, k3, k4, k5, k6, k7, k8, k9, k10, k11⟩ := id h0
  obtain ⟨t1, t2, t3, t4, t5, t6, t7, t8, t9, t10⟩ := id k10
  obtain ⟨s1, s2, s3, s4, s5, s6, s7, s8⟩ := id k11
  obtain ⟨m1, m2, m3, m4, m5, m6, m7, m8⟩ := id k8
  have x1 : ∀ t, x (o t) 1 = a 61 t := t8.1 1 (by decide)
  have x4 : ∀ t, x (o t) 4 = a 64 t := t8.1 4 (by decide)
  have x5 : ∀ t, x (o t) 5 = a 65 t := t8.1 5 (by decide)
  have x6 : ∀ t, x (o t) 6 = a 66 t := t8.1 6 (by decide)
  have kx : ∀ t, t < N → gin (x (o t) 1) 8 := fun t ht => by rw [x1]; exact t9 t ht
  have sx : ∀ t, t < N → gin (x (o t) 5) 5 := fun t ht => by rw [x5]; exact t10.1 t ht
  have hst : ∀ j, j < M → gin (a 74 j) N := fun j hj => ⟨st j, (s4 j hj).2.2.2, (s5 j hj).2.1⟩
  obtain ⟨e42, H, hH, h1, h2⟩ := m3
  refine gE_mono (Nat.le_refl d) (c_least (by omega) h1 hH v1) ?_
  rintro v _ ⟨hg, w', a', hf, hag, rfl⟩
  have hv : ∃ c, v = some (.int c) := by
    rcases hg with ⟨bd, _, _, _, _, e⟩ | ⟨_, e⟩
    · exact ⟨_, e⟩
    · exact ⟨_, e⟩
  obtain ⟨c, rfl⟩ := hv
  have hcan : gcan a' = gcanC a := by
    funext i j
    show bt (a' 80 i) j = bt (a 42 i) j
    rw [hag 80 (by decide), e42]
  refine ⟨c, rfl, gHp_of k4, gE_mono (Nat.le_refl d) (m_least (by omega) (by rw [hf.1 44 (by decide)]; exact h2) hH v1) ?_⟩
  rintro v' _ ⟨hg', e, a2, hag2, rfl⟩
  rw [hcan] at hg'
  exact ⟨gLe_eq hg' hg, J_of (jI_fr h0 (jfw_tr (jfw_41 hf) (jfw_tr jfw_Th (jfw_44 (by decide)))) (gag_tr (gag_sub hag (by decide)) (gag_sub hag2 (by decide))) rfl (Nat.le_refl _) (by omega) (by omega))⟩
theorem j_relief (hd : 50 ≤ d) (h : J K y S) (v1 v2 : Int32) : jTwo d K y 86 157 [.int v1, .int v2] S := by
  obtain ⟨n, u, w, a, b, r, q, D, x, z, N, M, T, o, p, st, rfl, h0⟩ := h
  obtain ⟨k1, k2, k3, k4, k5, k6, k7, k8, k9, k10, k11⟩ := id h0
  obtain ⟨t1, t2, t3, t4, t5, t6, t7, t8, t9, t10⟩ := id k10
  obtain ⟨s1, s2, s3, s4, s5, s6, s7, s8⟩ := id k11
  obtain ⟨m1, m2, m3, m4, m5, m6, m7, m8⟩ := id k8
  have x1 : ∀ t, x (o t) 1 = a 61 t := t8.1 1 (by decide)
  have x4 : ∀ t, x (o t) 4 = a 64 t := t8.1 4 (by decide)
  have x5 : ∀ t, x (o t) 5 = a 65 t := t8.1 5 (by decide)
  have x6 : ∀ t, x (o t) 6 = a 66 t := t8.1 6 (by decide)
  have kx : ∀ t, t < N → gin (x (o t) 1) 8 := fun t ht => by rw [x1]; exact t9 t ht
  have sx : ∀ t, t < N → gin (x (o t) 5) 5 := fun t ht => by rw [x5]; exact t10.1 t ht
  have hst : ∀ j, j < M → gin (a 74 j) N := fun j hj => ⟨st j, (s4 j hj).2.2.2, (s5 j hj).2.1⟩
  refine gE_mono (Nat.le_refl d) (c_relief (by omega) s2 s1 k6 k5 t4 s4 v1 v2) ?_
  rintro _ _ ⟨rfl, ⟨g, yr, hg, hy, rfl, rfl, rfl⟩ | ⟨hn, rfl⟩⟩
  · refine ⟨_, rfl, gHp_of k4, gE_mono (Nat.le_refl d) (m_relief (by omega) t1 s3 s1 k7 k5 hst _ _) ?_⟩
    rintro _ _ ⟨rfl, ⟨g', yr', hg', hy', e1, e2, rfl⟩ | ⟨hn, rfl⟩⟩
    · have e := nI_inj e2 (by omega) (by omega)
      subst e
      refine ⟨?_, J_of (jI_fr h0 jfw_Th gag_rf rfl (Nat.le_refl _) (by omega) (by omega))⟩
      have er : a 37 yr = if yr = T / 52 then w 44 39 else a 73 yr := by
        rw [m6 yr (by omega)]
        by_cases c : yr = T / 52
        · rw [if_pos c, if_pos (by omega)]
        · rw [if_neg c, if_neg (by omega)]
      rw [er, gsum_congr (p' := gRe a (nI g) (nI yr)) (f' := a 75) M (fun j hj => ?_) (fun j hj => (s5 j hj).2.2.2.1)]
      obtain ⟨g1, g2, g3, g4, g5, g6, g7, g8, g9⟩ := s5 j hj
      have hsj := (s4 j hj).2.2.2
      have x0 : x (o (st j)) 0 = a 60 (st j) := t8.1 0 (by decide) (st j)
      have ec : (a 74 j).toNatClampNeg = st j := by rw [g2]; exact nI_clamp (by omega)
      show (x (p j) 5 = 0 ∧ x (o (st j)) 0 = nI g ∧ x (p j) 4 / 52 = nI yr) ↔ (a 78 j = 0 ∧ a 60 (a 74 j).toNatClampNeg = nI g ∧ a 77 j / 52 = nI yr)
      rw [g6, x0, g5, ec]
    · exact absurd ⟨⟨g, hg, rfl⟩, ⟨yr, hy, rfl⟩⟩ hn
  · refine ⟨_, rfl, gHp_of k4, gE_mono (Nat.le_refl d) (m_relief (by omega) t1 s3 s1 k7 k5 hst _ _) ?_⟩
    rintro _ _ ⟨rfl, ⟨g', yr', hg', hy', e1, e2, rfl⟩ | ⟨hn', rfl⟩⟩
    · exact absurd ⟨⟨g', hg', e1⟩, ⟨yr', hy', e2⟩⟩ hn
    · exact ⟨rfl, J_of (jI_fr h0 jfw_Th gag_rf rfl (Nat.le_refl _) (by omega) (by omega))⟩
theorem j_count (hd : 50 ≤ d) (h : J K y S) (v1 : Int32) : jTwo d K y 87 159 [.int v1] S := by
  obtain ⟨n, u, w, a, b, r, q, D, x, z, N, M, T, o, p, st, rfl, h0⟩ := h
  obtain ⟨k1, k2, k3, k4, k5, k6, k7, k8, k9, k10, k11⟩ := id h0
  obtain ⟨t1, t2, t3, t4, t5, t6, t7, t8, t9, t10⟩ := id k10
  obtain ⟨s1, s2, s3, s4, s5, s6, s7, s8⟩ := id k11
  obtain ⟨m1, m2, m3, m4, m5, m6, m7, m8⟩ := id k8
  have x1 : ∀ t, x (o t) 1 = a 61 t := t8.1 1 (by decide)
  have x4 : ∀ t, x (o t) 4 = a 64 t := t8.1 4 (by decide)
  have x5 : ∀ t, x (o t) 5 = a 65 t := t8.1 5 (by decide)
  have x6 : ∀ t, x (o t) 6 = a 66 t := t8.1 6 (by decide)
  have kx : ∀ t, t < N → gin (x (o t) 1) 8 := fun t ht => by rw [x1]; exact t9 t ht
  have sx : ∀ t, t < N → gin (x (o t) 5) 5 := fun t ht => by rw [x5]; exact t10.1 t ht
  have hst : ∀ j, j < M → gin (a 74 j) N := fun j hj => ⟨st j, (s4 j hj).2.2.2, (s5 j hj).2.1⟩
  obtain ⟨e, hh, ls, he, hh2, r8, r9, h15, htx, hkx⟩ := k9
  obtain ⟨e21, len, hl6, l1, l2, hlf⟩ := m1
  obtain ⟨e42, H, hH, h1, h2⟩ := m3
  refine gE_mono (Nat.le_refl d) (c_count (by omega) t2 t1 s2 s1 t4 s4 he r8 v1) ?_
  rintro _ _ ⟨rfl, ⟨j, hj, rfl, rfl⟩ | ⟨hn, rfl⟩⟩
  · refine ⟨_, rfl, gHp_of k4, gE_mono (Nat.le_refl d) (m_count (by omega) t3 t1 s3 s1 h15 hh2 _) ?_⟩
    rintro _ _ ⟨rfl, ⟨j', hj', e1, rfl⟩ | ⟨hn, rfl⟩⟩
    · have ej := nI_inj e1 (by omega) (by omega)
      subst ej
      refine ⟨congrArg (fun z => some (Value.int z)) ?_, J_of (jI_fr h0 jfw_Th gag_rf rfl (Nat.le_refl _) (by omega) (by omega))⟩
      have c5 : ∀ c : Int32, gcnt (fun t => a 64 t = c) N = gcnt (fun t => x (o t) 4 = c) N := fun c => gcnt_congr N (fun t _ => by rw [x4])
      match j, hj with
      | 0, _ => show w 44 25 = w 0 1; rw [t2, t3]
      | 1, _ => show w 44 24 = w 0 16; rw [k6, k7]
      | 2, _ => show nI (gcnt (fun j => a 78 j = 0) M) = nI (gcnt (fun j => x (p j) 5 = 0) M); rw [gcnt_congr (p := fun j => a 78 j = 0) (p' := fun j => x (p j) 5 = 0) M (fun j hj => by rw [(s5 j hj).2.2.2.2.2.1])]
      | 3, _ => show gsum (fun j => a 78 j = 0) (a 75) M = gsum (fun j => x (p j) 5 = 0) (fun j => x (p j) 3) M; exact gsum_congr M (fun j hj => by rw [(s5 j hj).2.2.2.2.2.1]) (fun j hj => (s5 j hj).2.2.2.1.symm)
      | 4, _ => show nI (gcnt (fun t => a 64 t = 1) N) = nI (gcnt (fun t => x (o t) 4 = 1) N); rw [c5]
      | 5, _ => show nI (gcnt (fun t => a 64 t = 2) N) = nI (gcnt (fun t => x (o t) 4 = 2) N); rw [c5]
      | 6, _ => show nI (gcnt (fun t => a 64 t = 3) N) = nI (gcnt (fun t => x (o t) 4 = 3) N); rw [c5]
      | 7, _ => show a 50 hh = w (22 + 5 * e) 5; rw [hkx.1, htx.1]
      | 8, _ => show w 44 2 = w 20 1; rw [l1, l2]
      | 9, _ => show w 44 49 = w 41 2; rw [h1, h2]
    · exact absurd ⟨j, hj, rfl⟩ hn
  · refine ⟨_, rfl, gHp_of k4, gE_mono (Nat.le_refl d) (m_count (by omega) t3 t1 s3 s1 h15 hh2 _) ?_⟩
    rintro _ _ ⟨rfl, ⟨j', hj', e1, rfl⟩ | ⟨hn', rfl⟩⟩
    · exact absurd ⟨j', hj', e1⟩ hn
    · exact ⟨rfl, J_of (jI_fr h0 jfw_Th gag_rf rfl (Nat.le_refl _) (by omega) (by omega))⟩
end GJ3
