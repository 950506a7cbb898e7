/-! ===== the calls that set one thing ===== -/
abbrev jMi : List Nat := [21, 23, 24, 25, 28, 29, 30, 35, 36, 37, 39, 42, 45, 50, 51, 52, 53, 54, 68, 71, 72, 73, 79, 80]
theorem gTh_row {w : Nat → Nat → Int32} {i : Nat} (h : i ≠ 44) : gTh w i = w i := upd2_row _ _ _ _ h
theorem gTh_col {w : Nat → Nat → Int32} {s : Nat} (h : s ≠ 0) : gTh w 44 s = w 44 s := upd2_col _ _ _ _ h
section GJ5
variable {K T n u N M n' u' N' M' : Nat} {w a x w' a' x' : Nat → Nat → Int32} {b b' : Nat → Nat → Int64} {r r' : Nat → Nat → Nat} {q q' : Nat → Nat → Option Nat} {D z D' z' : Nat → Nat} {o p st o' p' st' : Nat → Nat}
/-- things or sales have changed, the rest hasn't -/
theorem jI_up (h : jI K n u w a b r q D x z N M T o p st) (h16 : w' 0 16 = w 0 16) (h17 : w' 0 17 = w 0 17) (hw : ∀ i, i ∈ [20, 22, 27, 41] → w' i = w i) (h44 : ∀ s, s ∈ [2, 15, 24, 39, 47, 49] → w' 44 s = w 44 s) (ha : ∀ j, j ∈ jMi → a' j = a j) (hn : n ≤ n') (hn1 : n' ≤ n + 10) (hu : u' ≤ u + 100) (hD : D' 1000000000 = 0) (hth : jTh n' w' a' x' q' D' N' T o') (hsa : jSa n' w' a' x' q' D' z' N' M' o' p' st') : jI (K + 1) n' u' w' a' b r q' D' x' z' N' M' T o' p' st' := by
  obtain ⟨k1, k2, k3, k4, k5, k6, k7, k8, k9, k10, k11⟩ := h
  refine ⟨by omega, by omega, by omega, hD, k5, h16.trans k6, (h44 24 (by decide)).trans k7, ?_, ?_, hth, hsa⟩
  · exact jM_cg k8 h17 (by rw [hw 20 (by decide)]) (by rw [hw 41 (by decide)]) (h44 2 (by decide)) (h44 39 (by decide)) (h44 47 (by decide)) (h44 49 (by decide)) (fun j hj => ha j (by simp only [List.mem_cons, List.not_mem_nil, or_false] at hj ⊢; omega)) rfl
  · exact jText_cg k9 (fun e he => by rw [hw (22 + 5 * e) (by simp only [List.mem_cons, List.not_mem_nil, or_false]; omega)]) (h44 15 (by decide)) (fun j hj => ha j (by simp only [List.mem_cons, List.not_mem_nil, or_false] at hj ⊢; omega)) rfl rfl
theorem cR_room (h : cRel w a x o N a) {s : Nat} (v : Int32) : cRel (gTh (upd2 w (4 + 3 * s) 0 v)) (upd2 a 69 s v) x o N (upd2 a 69 s v) := by
  obtain ⟨g1, g2, g3, g4, g5, g6⟩ := h
  have rt : ∀ s', s' < 5 → gTh (upd2 w (4 + 3 * s) 0 v) (4 + 3 * s') = upd2 w (4 + 3 * s) 0 v (4 + 3 * s') := fun s' hs' => upd2_row _ _ _ _ (by omega)
  have e : ∀ c σ, gcnt (gOn (upd2 a 69 s v) c σ) N = gcnt (gOn a c σ) N := fun c σ => gcnt_congr N (fun i _ => by show (upd2 a 69 _ _ 64 i = c ∧ upd2 a 69 _ _ 65 i = σ) ↔ _; rw [upd2_row _ _ _ _ (by decide), upd2_row _ _ _ _ (by decide)])
  refine ⟨fun i hi t => ?_, ?_, fun s' hs' => ?_, fun s' k' hs' hk' => ?_, fun s' hs' => ?_, fun s' hs' => ?_⟩
  · rw [upd2_row _ _ _ _ (by omega)]; exact g1 i hi t
  · rw [upd2_row _ _ _ _ (by decide), upd2_row _ _ _ _ (by decide)]; exact g2
  · rw [rt s' hs', upd2_sh1, upd2_at]
    by_cases es : s' = s
    · rw [if_pos ⟨es, rfl⟩, if_pos es]
    · rw [if_neg (fun h => es h.1), if_neg es]; exact g3 s' hs'
  · rw [upd2_row _ _ _ _ (by omega), upd2_row _ _ _ _ (by decide)]; exact g4 s' k' hs' hk'
  · rw [rt s' hs', upd2_sh1, if_neg (by omega), e]; exact g5 s' hs'
  · rw [rt s' hs', upd2_sh1, if_neg (by omega), e]; exact g6 s' hs'
theorem cR_base (h : cRel w a x o N a) {s : Nat} (v : Int32) : cRel (gTh w) (upd2 (upd2 a 19 s v) 68 s v) x o N (upd2 (upd2 a 19 s v) 68 s v) := by
  obtain ⟨g1, g2, g3, g4, g5, g6⟩ := h
  have rt : ∀ s', s' < 5 → gTh w (4 + 3 * s') = w (4 + 3 * s') := fun s' hs' => upd2_row _ _ _ _ (by omega)
  have ra : ∀ j, j ≠ 19 → j ≠ 68 → upd2 (upd2 a 19 s v) 68 s v j = a j := fun j h1 h2 => by rw [upd2_row _ _ _ _ h2, upd2_row _ _ _ _ h1]
  have e : ∀ c σ, gcnt (gOn (upd2 (upd2 a 19 s v) 68 s v) c σ) N = gcnt (gOn a c σ) N := fun c σ => gcnt_congr N (fun i _ => by show (upd2 (upd2 a 19 s v) 68 s v 64 i = c ∧ upd2 (upd2 a 19 s v) 68 s v 65 i = σ) ↔ _; rw [ra 64 (by decide) (by decide), ra 65 (by decide) (by decide)])
  refine ⟨fun i hi t => ?_, ?_, fun s' hs' => ?_, fun s' k' hs' hk' => ?_, fun s' hs' => ?_, fun s' hs' => ?_⟩
  · rw [ra _ (by omega) (by omega)]; exact g1 i hi t
  · funext k
    rw [upd2_row _ _ _ _ (by decide), upd2_at, upd2_at, upd2_row a 19 s v (by decide : 68 ≠ 19), g2]
  · rw [rt s' hs', ra _ (by decide) (by decide)]; exact g3 s' hs'
  · rw [ra _ (by omega) (by omega), ra _ (by decide) (by decide)]; exact g4 s' k' hs' hk'
  · rw [rt s' hs', e]; exact g5 s' hs'
  · rw [rt s' hs', e]; exact g6 s' hs'
end GJ5
/-! a tape's signs -/
def kok (st : Nat × (Nat → Int32)) : Prop := st.1 ≤ 600 ∧ ∀ i, i < st.1 → ∃ c, c < 128 ∧ st.2 i = nI c
theorem kput_ok {st : Nat × (Nat → Int32)} {c : Int32} (h : kok st) : kok (kput st c) := by
  unfold kput
  split
  · rename_i hc
    refine ⟨by have := hc.2; show st.1 + 1 ≤ 600; omega, fun i hi => ?_⟩
    show ∃ m, m < 128 ∧ (if i = st.1 then c else st.2 i) = nI m
    by_cases e : i = st.1
    · rw [if_pos e]
      rcases hc.1 with h1 | ⟨h1, h2⟩
      · exact ⟨10, by decide, h1⟩
      · have h0 : ¬ c < 0 := fun h => h1 (by
          have e1 := Int32.lt_iff_toInt_lt.mp h
          refine Int32.lt_iff_toInt_lt.mpr ?_
          have e2 : (0 : Int32).toInt = 0 := by decide
          have e3 : (32 : Int32).toInt = 32 := by decide
          omega)
        obtain ⟨j, hj, e9⟩ := gin_of' (M := 126) h0 h2 (by decide)
        exact ⟨j, by omega, e9⟩
    · rw [if_neg e]
      exact h.2 i (by have hi2 : i < st.1 + 1 := hi; omega)
  · exact h
theorem klay_ok (v : Int64) : ∀ (j : Nat) (st : Nat × (Nat → Int32)), kok st → kok (klay v j st) := by
  intro j
  induction j with
  | zero => intro st h; exact h
  | succ j ih => intro st h; exact ih _ (kput_ok h)
theorem kfeed_ok {v1 v2 v3 : Int64} {st : Nat × (Nat → Int32)} (h : kok st) : kok (kfeed v1 v2 v3 st) := klay_ok _ _ _ (klay_ok _ _ _ (klay_ok _ _ _ h))
section GJ6
variable {d K : Nat} {y : gH} {S : gS}
theorem j_shelf (hd : 50 ≤ d) (h : J K y S) (v1 v2 : Int32) : jTwo d K y 11 117 [.int v1, .int v2] S := by
  obtain ⟨n, u, w, a, b, r, q, D, x, z, N, M, T, o, p, st, rfl, h0⟩ := h
  obtain ⟨k1, k2, k3, k4, k5, k6, k7, k8, k9, k10, k11⟩ := id h0
  obtain ⟨t1, t2, t3, t4, t5, t6, t7, t8, t9, t10⟩ := id k10
  obtain ⟨s1, s2, s3, s4, s5, s6, s7, s8⟩ := id k11
  obtain ⟨m1, m2, m3, m4, m5, m6, m7, m8⟩ := id k8
  have x1 : ∀ t, x (o t) 1 = a 61 t := t8.1 1 (by decide)
  have x4 : ∀ t, x (o t) 4 = a 64 t := t8.1 4 (by decide)
  have x5 : ∀ t, x (o t) 5 = a 65 t := t8.1 5 (by decide)
  have x6 : ∀ t, x (o t) 6 = a 66 t := t8.1 6 (by decide)
  have kx : ∀ t, t < N → gin (x (o t) 1) 8 := fun t ht => by rw [x1]; exact t9 t ht
  have sx : ∀ t, t < N → gin (x (o t) 5) 5 := fun t ht => by rw [x5]; exact t10.1 t ht
  have hst : ∀ j, j < M → gin (a 74 j) N := fun j hj => ⟨st j, (s4 j hj).2.2.2, (s5 j hj).2.1⟩
  refine gE_mono (Nat.le_refl d) (c_shelf (by omega) v1 v2) ?_
  rintro _ _ (⟨s, j, hs, hj, rfl, rfl, rfl, rfl⟩ | ⟨hn, rfl, rfl⟩)
  · refine ⟨_, rfl, gHp_of k4, gE_mono (Nat.le_refl d) (m_shelf (by omega) _ _) ?_⟩
    rintro _ _ (⟨s', j', hs', hj', e1, e2, rfl, rfl⟩ | ⟨hn, rfl, rfl⟩)
    · have e := nI_inj e1 (by omega) (by omega)
      subst e
      have rw0 : ∀ i, i ∈ [0, 20, 22, 27, 41, 44] → upd2 w (4 + 3 * s) 0 (nI j) i = w i := fun i hi => upd2_row _ _ _ _ (by simp only [List.mem_cons, List.not_mem_nil, or_false] at hi; omega)
      have r0 := rw0 0 (by decide)
      have r44 := rw0 44 (by decide)
      refine ⟨rfl, J_of (N := N) (M := M) (o := o) (p := p) (st := st) (jI_up h0 (congrFun r0 16) (congrFun r0 17) (fun i hi => ?_) (fun s' hs' => ?_) (fun j hj => upd2_row _ _ _ _ (fun e => absurd (e ▸ hj) (by decide))) (Nat.le_refl _) (by omega) (by omega) k4 ?_ ?_)⟩
      · rw [gTh_row (fun e => absurd (e ▸ hi) (by decide))]
        exact rw0 i (by simp only [List.mem_cons, List.not_mem_nil, or_false] at hi ⊢; omega)
      · rw [gTh_col (fun e => absurd (e ▸ hs') (by decide)), r44]
      · exact ⟨t1, (congrFun r0 1).trans t2, (congrFun r44 25).trans t3, t4, t5, t6, t7, cR_room t8 _, t9, t10⟩
      · exact jSa_cg k11 (Nat.le_refl _) (congrFun r0 3) (congrFun r44 41) (fun j hj => upd2_row _ _ _ _ (fun e => absurd (e ▸ hj) (by decide))) (fun s hs => upd2_row _ _ _ _ (by omega)) (fun t _ h5 => ⟨h5, rfl, rfl⟩) (fun _ _ => rfl) (fun _ => rfl)
    · exact absurd ⟨⟨s, hs, rfl⟩, ⟨j, hj, rfl⟩⟩ hn
  · refine ⟨_, rfl, gHp_of k4, gE_mono (Nat.le_refl d) (m_shelf (by omega) _ _) ?_⟩
    rintro _ _ (⟨s', j', hs', hj', e1, e2, rfl, rfl⟩ | ⟨hn', rfl, rfl⟩)
    · exact absurd ⟨⟨s', hs', e1⟩, ⟨j', hj', e2⟩⟩ hn
    · exact ⟨rfl, J_of (jI_fr h0 jfw_Th gag_rf rfl (Nat.le_refl _) (by omega) (by omega))⟩
theorem j_base (hd : 50 ≤ d) (h : J K y S) (v1 v2 : Int32) : jTwo d K y 12 119 [.int v1, .int v2] S := by
  obtain ⟨n, u, w, a, b, r, q, D, x, z, N, M, T, o, p, st, rfl, h0⟩ := h
  obtain ⟨k1, k2, k3, k4, k5, k6, k7, k8, k9, k10, k11⟩ := id h0
  obtain ⟨t1, t2, t3, t4, t5, t6, t7, t8, t9, t10⟩ := id k10
  obtain ⟨s1, s2, s3, s4, s5, s6, s7, s8⟩ := id k11
  obtain ⟨m1, m2, m3, m4, m5, m6, m7, m8⟩ := id k8
  have x1 : ∀ t, x (o t) 1 = a 61 t := t8.1 1 (by decide)
  have x4 : ∀ t, x (o t) 4 = a 64 t := t8.1 4 (by decide)
  have x5 : ∀ t, x (o t) 5 = a 65 t := t8.1 5 (by decide)
  have x6 : ∀ t, x (o t) 6 = a 66 t := t8.1 6 (by decide)
  have kx : ∀ t, t < N → gin (x (o t) 1) 8 := fun t ht => by rw [x1]; exact t9 t ht
  have sx : ∀ t, t < N → gin (x (o t) 5) 5 := fun t ht => by rw [x5]; exact t10.1 t ht
  have hst : ∀ j, j < M → gin (a 74 j) N := fun j hj => ⟨st j, (s4 j hj).2.2.2, (s5 j hj).2.1⟩
  refine gE_mono (Nat.le_refl d) (c_base (by omega) v1 v2) ?_
  rintro _ _ (⟨s, j, hs, hj1, hj, rfl, rfl, rfl, rfl⟩ | ⟨hn, rfl, rfl⟩)
  · refine ⟨_, rfl, gHp_of k4, gE_mono (Nat.le_refl d) (m_base (by omega) _ _) ?_⟩
    rintro _ _ (⟨s', j', hs', hj1', hj', e1, e2, rfl, rfl⟩ | ⟨hn, rfl, rfl⟩)
    · have e := nI_inj e1 (by omega) (by omega)
      subst e
      have ra : ∀ i, i ≠ 19 → i ≠ 68 → upd2 (upd2 a 19 s (nI j)) 68 s (nI j) i = a i := fun i h1 h2 => by rw [upd2_row _ _ _ _ h2, upd2_row _ _ _ _ h1]
      refine ⟨rfl, J_of (N := N) (M := M) (T := T) (o := o) (p := p) (st := st) ⟨k1, by omega, by omega, k4, k5, k6, k7, ⟨m1, m2, m3, jDbl_up m4, m5, m6, fun k hk => ?_, m8⟩, ?_, ⟨t1, t2, t3, t4, t5, t6, t7, cR_base t8 _, t9, t10⟩, ?_⟩⟩
      · show ∃ c, 1 ≤ c ∧ c ≤ 10000 ∧ upd2 (upd2 a 19 s (nI j)) 68 s (nI j) 68 k = nI c
        rw [upd2_at]
        by_cases e : k = s
        · rw [if_pos e]; exact ⟨j, hj1, by omega, rfl⟩
        · rw [if_neg e]; exact m7 k hk
      · exact jText_cg k9 (fun e he => congrFun (upd2_row _ _ _ _ (by omega)) 5) rfl (fun i hi => ra i (fun e => absurd (e ▸ hi) (by decide)) (fun e => absurd (e ▸ hi) (by decide))) rfl rfl
      · exact jSa_cg k11 (Nat.le_refl _) rfl rfl (fun i hi => ra i (fun e => absurd (e ▸ hi) (by decide)) (fun e => absurd (e ▸ hi) (by decide))) (fun s hs => ra _ (by omega) (by omega)) (fun t _ h5 => ⟨h5, rfl, rfl⟩) (fun _ _ => rfl) (fun _ => rfl)
    · exact absurd ⟨⟨s, hs, rfl⟩, ⟨j, hj1, hj, rfl⟩⟩ hn
  · refine ⟨_, rfl, gHp_of k4, gE_mono (Nat.le_refl d) (m_base (by omega) _ _) ?_⟩
    rintro _ _ (⟨s', j', hs', hj1', hj', e1, e2, rfl, rfl⟩ | ⟨hn', rfl, rfl⟩)
    · exact absurd ⟨⟨s', hs', e1⟩, ⟨j', hj1', hj', e2⟩⟩ hn
    · exact ⟨rfl, J_of (jI_fr h0 jfw_Th gag_rf rfl (Nat.le_refl _) (by omega) (by omega))⟩
theorem j_van (hd : 50 ≤ d) (h : J K y S) (v1 : Int32) : jTwo d K y 69 146 [.int v1] S := by
  obtain ⟨n, u, w, a, b, r, q, D, x, z, N, M, T, o, p, st, rfl, h0⟩ := h
  obtain ⟨k1, k2, k3, k4, k5, k6, k7, k8, k9, k10, k11⟩ := id h0
  obtain ⟨t1, t2, t3, t4, t5, t6, t7, t8, t9, t10⟩ := id k10
  obtain ⟨s1, s2, s3, s4, s5, s6, s7, s8⟩ := id k11
  obtain ⟨m1, m2, m3, m4, m5, m6, m7, m8⟩ := id k8
  have x1 : ∀ t, x (o t) 1 = a 61 t := t8.1 1 (by decide)
  have x4 : ∀ t, x (o t) 4 = a 64 t := t8.1 4 (by decide)
  have x5 : ∀ t, x (o t) 5 = a 65 t := t8.1 5 (by decide)
  have x6 : ∀ t, x (o t) 6 = a 66 t := t8.1 6 (by decide)
  have kx : ∀ t, t < N → gin (x (o t) 1) 8 := fun t ht => by rw [x1]; exact t9 t ht
  have sx : ∀ t, t < N → gin (x (o t) 5) 5 := fun t ht => by rw [x5]; exact t10.1 t ht
  have hst : ∀ j, j < M → gin (a 74 j) N := fun j hj => ⟨st j, (s4 j hj).2.2.2, (s5 j hj).2.1⟩
  refine gE_mono (Nat.le_refl d) (c_van (by omega) v1) ?_
  rintro _ _ (⟨hg, rfl, rfl⟩ | ⟨hn, rfl, rfl⟩)
  · refine ⟨_, rfl, gHp_of k4, gE_mono (Nat.le_refl d) (m_van (by omega) _) ?_⟩
    rintro _ _ (⟨hg', rfl, rfl⟩ | ⟨hn, rfl, rfl⟩)
    · have ws : ∀ s, s < 5 → upd2 (gTh (upd2 w 0 17 v1)) 44 47 v1 (4 + 3 * s) = w (4 + 3 * s) := fun s hs => by rw [upd2_row _ _ _ _ (by omega), gTh_row (by omega), upd2_row _ _ _ _ (by omega)]
      refine ⟨rfl, J_of (N := N) (M := M) (T := T) (o := o) (p := p) (st := st) ⟨k1, by omega, by omega, k4, k5, k6, k7, ⟨m1, m2, m3, jDbl_up m4, rfl, m6, m7, m8⟩, ?_, ?_, ?_⟩⟩
      · exact jText_cg k9 (fun e he => by rw [upd2_row _ _ _ _ (by omega), gTh_row (by omega), upd2_row _ _ _ _ (by omega)]) rfl (fun _ _ => rfl) rfl rfl
      · exact jTh_cg k10 (Nat.le_refl _) rfl rfl ws (fun _ _ _ => rfl) rfl (fun _ _ => rfl)
      · exact jSa_cg k11 (Nat.le_refl _) rfl rfl (fun _ _ => rfl) (fun _ _ => rfl) (fun t _ h5 => ⟨h5, rfl, rfl⟩) (fun _ _ => rfl) (fun _ => rfl)
    · exact absurd hg hn
  · refine ⟨_, rfl, gHp_of k4, gE_mono (Nat.le_refl d) (m_van (by omega) _) ?_⟩
    rintro _ _ (⟨hg', rfl, rfl⟩ | ⟨hn', rfl, rfl⟩)
    · exact absurd hg' hn
    · exact ⟨rfl, J_of (jI_fr h0 jfw_Th gag_rf rfl (Nat.le_refl _) (by omega) (by omega))⟩
theorem j_rate (hd : 50 ≤ d) (h : J K y S) (v1 : Int32) : jTwo d K y 85 156 [.int v1] S := by
  obtain ⟨n, u, w, a, b, r, q, D, x, z, N, M, T, o, p, st, rfl, h0⟩ := h
  obtain ⟨k1, k2, k3, k4, k5, k6, k7, k8, k9, k10, k11⟩ := id h0
  obtain ⟨t1, t2, t3, t4, t5, t6, t7, t8, t9, t10⟩ := id k10
  obtain ⟨s1, s2, s3, s4, s5, s6, s7, s8⟩ := id k11
  obtain ⟨m1, m2, m3, m4, m5, m6, m7, m8⟩ := id k8
  have x1 : ∀ t, x (o t) 1 = a 61 t := t8.1 1 (by decide)
  have x4 : ∀ t, x (o t) 4 = a 64 t := t8.1 4 (by decide)
  have x5 : ∀ t, x (o t) 5 = a 65 t := t8.1 5 (by decide)
  have x6 : ∀ t, x (o t) 6 = a 66 t := t8.1 6 (by decide)
  have kx : ∀ t, t < N → gin (x (o t) 1) 8 := fun t ht => by rw [x1]; exact t9 t ht
  have sx : ∀ t, t < N → gin (x (o t) 5) 5 := fun t ht => by rw [x5]; exact t10.1 t ht
  have hst : ∀ j, j < M → gin (a 74 j) N := fun j hj => ⟨st j, (s4 j hj).2.2.2, (s5 j hj).2.1⟩
  refine gE_mono (Nat.le_refl d) (c_rate (by omega) k6 k5 v1) ?_
  rintro _ _ (⟨hg, rfl, a1, hag, h37, rfl⟩ | ⟨hn, rfl, rfl⟩)
  · refine ⟨_, rfl, gHp_of k4, gE_mono (Nat.le_refl d) (m_rate (by omega) _) ?_⟩
    rintro _ _ (⟨hg', rfl, rfl⟩ | ⟨hn, rfl, rfl⟩)
    · have ra : ∀ i, i ≠ 37 → a1 i = a i := fun i hi => hag i (by simp only [List.mem_cons, List.not_mem_nil, or_false]; exact hi)
      have ws : ∀ i, i ≠ 44 → upd2 (gTh w) 44 39 v1 i = w i := fun i hi => by rw [upd2_row _ _ _ _ hi, gTh_row hi]
      refine ⟨rfl, J_of (N := N) (M := M) (T := T) (o := o) (p := p) (st := st) ⟨k1, by omega, by omega, k4, k5, k6, k7, ⟨?_, ?_, ?_, ?_, m5, fun yr hy => ?_, ?_, m8⟩, ?_, ?_, ?_⟩⟩
      · rw [ra 21 (by decide), ra 45 (by decide)]; exact m1
      · rw [ra 39 (by decide), ra 79 (by decide)]; exact m2
      · rw [ra 42 (by decide), ra 80 (by decide)]; exact m3
      · rw [ra 35 (by decide), ra 71 (by decide), ra 36 (by decide), ra 72 (by decide)]; exact jDbl_up m4
      · rw [h37 yr, ra 73 (by decide)]
        show _ = if T / 52 ≤ yr then v1 else a 73 yr
        by_cases c : T / 52 ≤ yr
        · rw [if_pos c, if_pos ⟨c, hy⟩]
        · rw [if_neg c, if_neg (fun h => c h.1), m6 yr hy, if_neg c]
      · rw [ra 68 (by decide)]; exact m7
      · exact jText_cg k9 (fun e he => by rw [ws _ (by omega)]) rfl (fun i hi => ra i (fun e => absurd (e ▸ hi) (by decide))) rfl rfl
      · exact jTh_cg k10 (Nat.le_refl _) rfl rfl (fun s hs => ws _ (by omega)) (fun i _ _ => ra i (by omega)) (ra 19 (by decide)) (fun s hs => ra _ (by omega))
      · exact jSa_cg k11 (Nat.le_refl _) rfl rfl (fun i hi => ra i (fun e => absurd (e ▸ hi) (by decide))) (fun s hs => ra _ (by omega)) (fun t _ h5 => by rw [ra 64 (by decide), ra 65 (by decide), ra 66 (by decide)]; exact ⟨h5, rfl, rfl⟩) (fun _ _ => rfl) (fun _ => rfl)
    · exact absurd hg hn
  · refine ⟨_, rfl, gHp_of k4, gE_mono (Nat.le_refl d) (m_rate (by omega) _) ?_⟩
    rintro _ _ (⟨hg', rfl, rfl⟩ | ⟨hn', rfl, rfl⟩)
    · exact absurd hg' hn
    · exact ⟨rfl, J_of (jI_fr h0 jfw_Th gag_rf rfl (Nat.le_refl _) (by omega) (by omega))⟩
theorem j_way (hd : 50 ≤ d) (h : J K y S) (v1 v2 v3 : Int32) : jTwo d K y 70 147 [.int v1, .int v2, .int v3] S := by
  obtain ⟨n, u, w, a, b, r, q, D, x, z, N, M, T, o, p, st, rfl, h0⟩ := h
  obtain ⟨k1, k2, k3, k4, k5, k6, k7, k8, k9, k10, k11⟩ := id h0
  obtain ⟨t1, t2, t3, t4, t5, t6, t7, t8, t9, t10⟩ := id k10
  obtain ⟨s1, s2, s3, s4, s5, s6, s7, s8⟩ := id k11
  obtain ⟨m1, m2, m3, m4, m5, m6, m7, m8⟩ := id k8
  have x1 : ∀ t, x (o t) 1 = a 61 t := t8.1 1 (by decide)
  have x4 : ∀ t, x (o t) 4 = a 64 t := t8.1 4 (by decide)
  have x5 : ∀ t, x (o t) 5 = a 65 t := t8.1 5 (by decide)
  have x6 : ∀ t, x (o t) 6 = a 66 t := t8.1 6 (by decide)
  have kx : ∀ t, t < N → gin (x (o t) 1) 8 := fun t ht => by rw [x1]; exact t9 t ht
  have sx : ∀ t, t < N → gin (x (o t) 5) 5 := fun t ht => by rw [x5]; exact t10.1 t ht
  have hst : ∀ j, j < M → gin (a 74 j) N := fun j hj => ⟨st j, (s4 j hj).2.2.2, (s5 j hj).2.1⟩
  refine gE_mono (Nat.le_refl d) (c_way (by omega) v1 v2 v3) ?_
  rintro _ _ (⟨i, j, k, hi, hj, hij, hk, rfl, rfl, rfl, rfl, rfl⟩ | ⟨hn, rfl, rfl⟩)
  · refine ⟨_, rfl, gHp_of k4, gE_mono (Nat.le_refl d) (m_way (by omega) _ _ _) ?_⟩
    rintro _ _ (⟨i', j', k', hi', hj', hij', hk', e1, e2, e3, rfl, rfl⟩ | ⟨hn, rfl, rfl⟩)
    · have e := nI_inj e1 (by omega) (by omega)
      subst e
      have e := nI_inj e2 (by omega) (by omega)
      subst e
      obtain ⟨e39, wy, y1, y2, y3⟩ := m2
      have ra : ∀ l, l ≠ 39 → l ≠ 79 → upd2 (upd2 (upd2 (upd2 a 39 (6 * i + j) (nI k)) 39 (6 * j + i) (nI k)) 79 (6 * i + j) (nI k)) 79 (6 * j + i) (nI k) l = a l := fun l h1 h2 => by rw [upd2_row _ _ _ _ h2, upd2_row _ _ _ _ h2, upd2_row _ _ _ _ h1, upd2_row _ _ _ _ h1]
      have eA : ∀ (l : Nat), upd2 (upd2 (upd2 (upd2 a 39 (6 * i + j) (nI k)) 39 (6 * j + i) (nI k)) 79 (6 * i + j) (nI k)) 79 (6 * j + i) (nI k) 39 l = if l = 6 * j + i then nI k else if l = 6 * i + j then nI k else a 39 l := fun l => by
        rw [upd2_row _ _ _ _ (by decide), upd2_row _ _ _ _ (by decide), upd2_at, upd2_at]
      have eB : ∀ (l : Nat), upd2 (upd2 (upd2 (upd2 a 39 (6 * i + j) (nI k)) 39 (6 * j + i) (nI k)) 79 (6 * i + j) (nI k)) 79 (6 * j + i) (nI k) 79 l = if l = 6 * j + i then nI k else if l = 6 * i + j then nI k else a 79 l := fun l => by
        rw [upd2_at, upd2_at]; rfl
      have hJ : jWay (upd2 (upd2 (upd2 (upd2 a 39 (6 * i + j) (nI k)) 39 (6 * j + i) (nI k)) 79 (6 * i + j) (nI k)) 79 (6 * j + i) (nI k) 39) (upd2 (upd2 (upd2 (upd2 a 39 (6 * i + j) (nI k)) 39 (6 * j + i) (nI k)) 79 (6 * i + j) (nI k)) 79 (6 * j + i) (nI k) 79) := by
        refine ⟨?_, fun l m => if (l = i ∧ m = j) ∨ (l = j ∧ m = i) then k else wy l m, fun l hl m hm => ?_, fun l hl m hm => ?_, fun l hl m hm => ?_⟩
        · funext l
          rw [eA, eB, e39]
        · rw [eA]
          show _ = nI (if (l = i ∧ m = j) ∨ (l = j ∧ m = i) then k else wy l m)
          by_cases c1 : l = j ∧ m = i
          · rw [if_pos (by omega), if_pos (Or.inr c1)]
          · rw [if_neg (by omega)]
            by_cases c2 : l = i ∧ m = j
            · rw [if_pos (by omega), if_pos (Or.inl c2)]
            · rw [if_neg (by omega), if_neg (fun h => h.elim c2 c1)]; exact y1 l hl m hm
        · show (if (l = i ∧ m = j) ∨ (l = j ∧ m = i) then k else wy l m) < 100
          split
          · exact hk
          · exact y2 l hl m hm
        · show (if (l = i ∧ m = j) ∨ (l = j ∧ m = i) then k else wy l m) = (if (m = i ∧ l = j) ∨ (m = j ∧ l = i) then k else wy m l)
          by_cases c1 : (l = i ∧ m = j) ∨ (l = j ∧ m = i)
          · rw [if_pos c1, if_pos (by omega)]
          · rw [if_neg c1, if_neg (by omega)]; exact y3 l hl m hm
      refine ⟨rfl, J_of (N := N) (M := M) (T := T) (o := o) (p := p) (st := st) ⟨k1, by omega, by omega, k4, k5, k6, k7, ⟨m1, hJ, m3, jDbl_up m4, m5, m6, m7, m8⟩, ?_, ?_, ?_⟩⟩
      · exact jText_cg k9 (fun e he => congrFun (upd2_row _ _ _ _ (by omega)) 5) rfl (fun i hi => ra i (fun e => absurd (e ▸ hi) (by decide)) (fun e => absurd (e ▸ hi) (by decide))) rfl rfl
      · exact jTh_cg k10 (Nat.le_refl _) rfl rfl (fun s hs => upd2_row _ _ _ _ (by omega)) (fun i _ _ => ra i (by omega) (by omega)) rfl (fun s hs => ra _ (by omega) (by omega))
      · exact jSa_cg k11 (Nat.le_refl _) rfl rfl (fun i hi => ra i (fun e => absurd (e ▸ hi) (by decide)) (fun e => absurd (e ▸ hi) (by decide))) (fun s hs => ra _ (by omega) (by omega)) (fun t _ h5 => ⟨h5, rfl, rfl⟩) (fun _ _ => rfl) (fun _ => rfl)
    · exact absurd ⟨⟨i, hi, rfl⟩, ⟨j, hj, rfl⟩, fun e => hij (nI_inj e (by omega) (by omega)), ⟨k, hk, rfl⟩⟩ hn
  · refine ⟨_, rfl, gHp_of k4, gE_mono (Nat.le_refl d) (m_way (by omega) _ _ _) ?_⟩
    rintro _ _ (⟨i', j', k', hi', hj', hij', hk', e1, e2, e3, rfl, rfl⟩ | ⟨hn', rfl, rfl⟩)
    · exact absurd ⟨⟨i', hi', e1⟩, ⟨j', hj', e2⟩, fun e => hij' (nI_inj (e1.symm.trans (e.trans e2)) (by omega) (by omega)), ⟨k', hk', e3⟩⟩ hn
    · exact ⟨rfl, J_of (jI_fr h0 jfw_Th gag_rf rfl (Nat.le_refl _) (by omega) (by omega))⟩
theorem j_helper (hd : 50 ≤ d) (h : J K y S) (v1 : Int32) : jTwo d K y 76 150 [.int v1] S := by
  obtain ⟨n, u, w, a, b, r, q, D, x, z, N, M, T, o, p, st, rfl, h0⟩ := h
  obtain ⟨k1, k2, k3, k4, k5, k6, k7, k8, k9, k10, k11⟩ := id h0
  obtain ⟨t1, t2, t3, t4, t5, t6, t7, t8, t9, t10⟩ := id k10
  obtain ⟨s1, s2, s3, s4, s5, s6, s7, s8⟩ := id k11
  obtain ⟨m1, m2, m3, m4, m5, m6, m7, m8⟩ := id k8
  have x1 : ∀ t, x (o t) 1 = a 61 t := t8.1 1 (by decide)
  have x4 : ∀ t, x (o t) 4 = a 64 t := t8.1 4 (by decide)
  have x5 : ∀ t, x (o t) 5 = a 65 t := t8.1 5 (by decide)
  have x6 : ∀ t, x (o t) 6 = a 66 t := t8.1 6 (by decide)
  have kx : ∀ t, t < N → gin (x (o t) 1) 8 := fun t ht => by rw [x1]; exact t9 t ht
  have sx : ∀ t, t < N → gin (x (o t) 5) 5 := fun t ht => by rw [x5]; exact t10.1 t ht
  have hst : ∀ j, j < M → gin (a 74 j) N := fun j hj => ⟨st j, (s4 j hj).2.2.2, (s5 j hj).2.1⟩
  obtain ⟨e42, H, hH, h1, h2⟩ := m3
  refine gE_mono (Nat.le_refl d) (c_helper (by omega) h1 hH v1) ?_
  rintro _ _ (⟨j, hj, hH10, rfl, rfl, rfl⟩ | ⟨hn, rfl, rfl⟩)
  · refine ⟨_, rfl, gHp_of k4, gE_mono (Nat.le_refl d) (m_helper (w := upd2 w 41 2 (nI (H + 1))) h2 hH _) ?_⟩
    rintro _ _ (⟨j', hj', hH', e1, rfl, rfl⟩ | ⟨hn, rfl, rfl⟩)
    · have ra : ∀ l, l ≠ 42 → l ≠ 80 → upd2 (upd2 a 42 H (nI j)) 80 H (nI j) l = a l := fun l h1 h2 => by rw [upd2_row _ _ _ _ h2, upd2_row _ _ _ _ h1]
      have ws : ∀ i, i ≠ 44 → i ≠ 41 → upd2 (gTh (upd2 w 41 2 (nI (H + 1)))) 44 49 (nI (H + 1)) i = w i := fun i hi h2 => by rw [upd2_row _ _ _ _ hi, gTh_row hi, upd2_row _ _ _ _ h2]
      have hJ : upd2 (upd2 a 42 H (nI j)) 80 H (nI j) 42 = upd2 (upd2 a 42 H (nI j)) 80 H (nI j) 80 := by
        funext l
        rw [upd2_row _ _ _ _ (by decide), upd2_at, upd2_at, upd2_row a 42 H (nI j) (by decide : 80 ≠ 42), e42]
      refine ⟨rfl, J_of (N := N) (M := M) (T := T) (o := o) (p := p) (st := st) ⟨k1, by omega, by omega, k4, k5, k6, k7, ⟨m1, m2, ⟨hJ, H + 1, by omega, rfl, rfl⟩, jDbl_up m4, m5, m6, m7, m8⟩, ?_, ?_, ?_⟩⟩
      · exact jText_cg k9 (fun e he => by rw [ws _ (by omega) (by omega)]) rfl (fun i hi => ra i (fun e => absurd (e ▸ hi) (by decide)) (fun e => absurd (e ▸ hi) (by decide))) rfl rfl
      · exact jTh_cg k10 (Nat.le_refl _) rfl rfl (fun s hs => ws _ (by omega) (by omega)) (fun i _ _ => ra i (by omega) (by omega)) rfl (fun s hs => ra _ (by omega) (by omega))
      · exact jSa_cg k11 (Nat.le_refl _) rfl rfl (fun i hi => ra i (fun e => absurd (e ▸ hi) (by decide)) (fun e => absurd (e ▸ hi) (by decide))) (fun s hs => ra _ (by omega) (by omega)) (fun t _ h5 => ⟨h5, rfl, rfl⟩) (fun _ _ => rfl) (fun _ => rfl)
    · exact absurd ⟨⟨j, hj, rfl⟩, hH10⟩ hn
  · refine ⟨_, rfl, gHp_of k4, gE_mono (Nat.le_refl d) (m_helper h2 hH _) ?_⟩
    rintro _ _ (⟨j', hj', hH', e1, rfl, rfl⟩ | ⟨hn', rfl, rfl⟩)
    · exact absurd ⟨⟨j', hj', e1⟩, hH'⟩ hn
    · exact ⟨rfl, J_of (jI_fr h0 jfw_Th gag_rf rfl (Nat.le_refl _) (by omega) (by omega))⟩
theorem j_says (hd : 50 ≤ d) (h : J K y S) (v1 v2 v3 : Int32) : jTwo d K y 47 129 [.int v1, .int v2, .int v3] S := by
  obtain ⟨n, u, w, a, b, r, q, D, x, z, N, M, T, o, p, st, rfl, h0⟩ := h
  obtain ⟨k1, k2, k3, k4, k5, k6, k7, k8, k9, k10, k11⟩ := id h0
  obtain ⟨t1, t2, t3, t4, t5, t6, t7, t8, t9, t10⟩ := id k10
  obtain ⟨s1, s2, s3, s4, s5, s6, s7, s8⟩ := id k11
  obtain ⟨m1, m2, m3, m4, m5, m6, m7, m8⟩ := id k8
  have x1 : ∀ t, x (o t) 1 = a 61 t := t8.1 1 (by decide)
  have x4 : ∀ t, x (o t) 4 = a 64 t := t8.1 4 (by decide)
  have x5 : ∀ t, x (o t) 5 = a 65 t := t8.1 5 (by decide)
  have x6 : ∀ t, x (o t) 6 = a 66 t := t8.1 6 (by decide)
  have kx : ∀ t, t < N → gin (x (o t) 1) 8 := fun t ht => by rw [x1]; exact t9 t ht
  have sx : ∀ t, t < N → gin (x (o t) 5) 5 := fun t ht => by rw [x5]; exact t10.1 t ht
  have hst : ∀ j, j < M → gin (a 74 j) N := fun j hj => ⟨st j, (s4 j hj).2.2.2, (s5 j hj).2.1⟩
  obtain ⟨e, hh, ls, he, hh2, r8, r9, h15, htx, hkx⟩ := id k9
  refine gE_mono (Nat.le_refl d) (c_says (by omega) t2 t1 k6 (by omega) t4 t9 he r8 htx t8 v1 v2 v3) ?_
  rintro _ _ (⟨i, t, k, j, a1, hi, ht, hk, hj1, hj, rfl, rfl, rfl, ek, hag, rfl, rfl⟩ | ⟨hn, rfl, rfl⟩)
  · have ra1 : ∀ l, l ∉ jXf → l ≠ 35 → l ≠ 36 → a1 l = a l := fun l h1 h2 h3 => by rw [cXs_f he hag l h1, upd2_row _ _ _ _ h3, upd2_row _ _ _ _ h2]
    have hkx1 : kTx a1 hh ls := by
      refine ⟨?_, hkx.2.1, kLn_cg ls 0 0 (fun j _ _ => ?_) (fun j _ _ => ?_) hkx.2.2.1, hkx.2.2.2⟩
      · rw [ra1 50 (by decide) (by decide) (by decide)]; exact hkx.1
      · rw [ra1 51 (by decide) (by decide) (by decide), ra1 52 (by decide) (by decide) (by decide)]; exact ⟨rfl, rfl⟩
      · rw [ra1 53 (by decide) (by decide) (by decide), ra1 54 (by decide) (by decide) (by decide)]; exact ⟨rfl, rfl⟩
    have e61 : a1 61 = a 61 := ra1 61 (by decide) (by decide) (by decide)
    have efa : gfa a1 T t k = gfa a T t k := by
      funext l
      unfold gfa
      rw [e61, ra1 62 (by decide) (by decide) (by decide), ra1 63 (by decide) (by decide) (by decide), ra1 68 (by decide) (by decide) (by decide), ra1 60 (by decide) (by decide) (by decide)]
    refine ⟨_, rfl, gHp_of k4, gE_mono (Nat.le_refl d) (m_says (by omega) t3 t1 k7 (by omega) h15 hh2 (kTx_gm hh2 hkx1) (fun t ht => by rw [e61]; exact t9 t ht) _ _ _) ?_⟩
    rintro _ _ (⟨i', t', k', j', a2, hi', ht', hk', hj1', hj', e1, e2, e3, ek', hag2, rfl, rfl⟩ | ⟨hn, rfl, rfl⟩)
    · have e := nI_inj e1 (by omega) (by omega)
      subst e
      have e := nI_inj e2 (by omega) (by omega)
      subst e
      have e := nI_inj e3 (by omega) (by omega)
      subst e
      rw [e61] at ek'
      have e := nI_inj (ek.symm.trans ek') (by omega) (by omega)
      subst e
      rw [efa] at hag2
      rw [efa]
      generalize gway (gfa a T t k) ls = wy at hag hag2 ⊢
      have ra2 : ∀ l, l ∉ jXf → l ≠ 35 → l ≠ 36 → l ≠ 71 → l ≠ 72 → a2 l = a l := fun l h1 h2 h3 h4 h5 => by
        rw [hag2 l (fun hc => h1 (by simp only [List.mem_cons, List.not_mem_nil, or_false] at hc ⊢; omega)), upd2_row _ _ _ _ h5, upd2_row _ _ _ _ h4]
        exact ra1 l h1 h2 h3
      have q35 : a2 35 = upd2 a 35 i (a 35 i + 1) 35 := by
        rw [hag2 35 (by decide), upd2_row _ _ _ _ (by decide), upd2_row _ _ _ _ (by decide), cXs_f he hag 35 (by decide), upd2_row _ _ _ _ (by decide)]
      have q36 : a2 36 = upd2 a 36 i (a 36 i + if j = wy then 1 else 0) 36 := by
        rw [hag2 36 (by decide), upd2_row _ _ _ _ (by decide), upd2_row _ _ _ _ (by decide), cXs_f he hag 36 (by decide)]
        funext l; rw [upd2_at, upd2_at]; rfl
      have a171 : a1 71 = a 71 := ra1 71 (by decide) (by decide) (by decide)
      have a172 : a1 72 = a 72 := ra1 72 (by decide) (by decide) (by decide)
      have q71 : a2 71 = upd2 a 71 i (a 71 i + 1) 71 := by
        rw [hag2 71 (by decide), upd2_row _ _ _ _ (by decide)]
        funext l; rw [upd2_at, upd2_at, a171]
      have q72 : a2 72 = upd2 a 72 i (a 72 i + if j = wy then 1 else 0) 72 := by
        rw [hag2 72 (by decide)]
        funext l; rw [upd2_at, upd2_at, upd2_row a1 71 i _ (by decide : 72 ≠ 71), a172]
      have hD : jDbl (K + 1) (a2 35) (a2 71) (a2 36) (a2 72) := by
        refine ⟨?_, ?_, fun l hl => ?_⟩
        · rw [q35, q71]; funext l; rw [upd2_at, upd2_at, m4.1]
        · rw [q36, q72]; funext l; rw [upd2_at, upd2_at, m4.2.1]
        · rw [q35, q36, upd2_at, upd2_at]
          obtain ⟨db, ag, g1, g2, g3, g4⟩ := m4.2.2 l hl
          by_cases c : l = i
          · subst c
            rw [if_pos rfl, if_pos rfl, g3, g4]
            by_cases c2 : j = wy
            · rw [if_pos c2]
              exact ⟨db + 1, ag + 1, by omega, by omega, nI_1 db, nI_1 ag⟩
            · rw [if_neg c2]
              exact ⟨db + 1, ag, by omega, by omega, nI_1 db, Int32.add_zero _⟩
          · rw [if_neg c, if_neg c]
            exact ⟨db, ag, g1, by omega, g3, g4⟩
      refine ⟨rfl, J_of (N := N) (M := M) (T := T) (o := o) (p := p) (st := st) ⟨k1, by omega, by omega, k4, k5, k6, k7, ⟨?_, ?_, ?_, hD, m5, ?_, ?_, m8⟩, ?_, ?_, ?_⟩⟩
      · rw [ra2 21 (by decide) (by decide) (by decide) (by decide) (by decide), ra2 45 (by decide) (by decide) (by decide) (by decide) (by decide)]; exact m1
      · rw [ra2 39 (by decide) (by decide) (by decide) (by decide) (by decide), ra2 79 (by decide) (by decide) (by decide) (by decide) (by decide)]; exact m2
      · rw [ra2 42 (by decide) (by decide) (by decide) (by decide) (by decide), ra2 80 (by decide) (by decide) (by decide) (by decide) (by decide)]; exact m3
      · rw [ra2 37 (by decide) (by decide) (by decide) (by decide) (by decide), ra2 73 (by decide) (by decide) (by decide) (by decide) (by decide)]; exact m6
      · rw [ra2 68 (by decide) (by decide) (by decide) (by decide) (by decide)]; exact m7
      · exact jText_cg k9 (fun e he => congrFun (upd2_row _ _ _ _ (by omega)) 5) rfl (fun l hl => by simp only [List.mem_cons, List.not_mem_nil, or_false] at hl; exact ra2 l (by simp only [List.mem_cons, List.not_mem_nil, or_false]; omega) (by omega) (by omega) (by omega) (by omega)) rfl rfl
      · exact jTh_cg k10 (Nat.le_refl _) rfl rfl (fun s hs => upd2_row _ _ _ _ (by omega)) (fun l _ _ => ra2 l (by simp only [List.mem_cons, List.not_mem_nil, or_false]; omega) (by omega) (by omega) (by omega) (by omega)) (ra2 19 (by decide) (by decide) (by decide) (by decide) (by decide)) (fun s hs => ra2 _ (by simp only [List.mem_cons, List.not_mem_nil, or_false]; omega) (by omega) (by omega) (by omega) (by omega))
      · exact jSa_cg k11 (Nat.le_refl _) rfl rfl (fun l hl => by simp only [List.mem_cons, List.not_mem_nil, or_false] at hl; exact ra2 l (by simp only [List.mem_cons, List.not_mem_nil, or_false]; omega) (by omega) (by omega) (by omega) (by omega)) (fun s hs => ra2 _ (by simp only [List.mem_cons, List.not_mem_nil, or_false]; omega) (by omega) (by omega) (by omega) (by omega)) (fun t _ h5 => by rw [ra2 64 (by decide) (by decide) (by decide) (by decide) (by decide), ra2 65 (by decide) (by decide) (by decide) (by decide) (by decide), ra2 66 (by decide) (by decide) (by decide) (by decide) (by decide)]; exact ⟨h5, rfl, rfl⟩) (fun _ _ => rfl) (fun _ => rfl)
    · exact absurd ⟨⟨i, hi, rfl⟩, ⟨t, ht, rfl⟩, ⟨j, hj1, hj, rfl⟩⟩ hn
  · refine ⟨_, rfl, gHp_of k4, gE_mono (Nat.le_refl d) (m_says (by omega) t3 t1 k7 (by omega) h15 hh2 (kTx_gm hh2 hkx) t9 _ _ _) ?_⟩
    rintro _ _ (⟨i', t', k', j', a2, hi', ht', hk', hj1', hj', e1, e2, e3, ek', hag2, rfl, rfl⟩ | ⟨hn', rfl, rfl⟩)
    · exact absurd ⟨⟨i', hi', e1⟩, ⟨t', ht', e2⟩, ⟨j', hj1', hj', e3⟩⟩ hn
    · exact ⟨rfl, J_of (jI_fr h0 jfw_Th gag_rf rfl (Nat.le_refl _) (by omega) (by omega))⟩
theorem j_feed (hd : 50 ≤ d) (h : J K y S) (v1 v2 v3 : Int64) : jTwo d K y 13 93 [.long v1, .long v2, .long v3] S := by
  obtain ⟨n, u, w, a, b, r, q, D, x, z, N, M, T, o, p, st, rfl, h0⟩ := h
  obtain ⟨k1, k2, k3, k4, k5, k6, k7, k8, k9, k10, k11⟩ := id h0
  obtain ⟨t1, t2, t3, t4, t5, t6, t7, t8, t9, t10⟩ := id k10
  obtain ⟨s1, s2, s3, s4, s5, s6, s7, s8⟩ := id k11
  obtain ⟨m1, m2, m3, m4, m5, m6, m7, m8⟩ := id k8
  have x1 : ∀ t, x (o t) 1 = a 61 t := t8.1 1 (by decide)
  have x4 : ∀ t, x (o t) 4 = a 64 t := t8.1 4 (by decide)
  have x5 : ∀ t, x (o t) 5 = a 65 t := t8.1 5 (by decide)
  have x6 : ∀ t, x (o t) 6 = a 66 t := t8.1 6 (by decide)
  have kx : ∀ t, t < N → gin (x (o t) 1) 8 := fun t ht => by rw [x1]; exact t9 t ht
  have sx : ∀ t, t < N → gin (x (o t) 5) 5 := fun t ht => by rw [x5]; exact t10.1 t ht
  have hst : ∀ j, j < M → gin (a 74 j) N := fun j hj => ⟨st j, (s4 j hj).2.2.2, (s5 j hj).2.1⟩
  obtain ⟨e21, len, hl6, l1, l2, hlf⟩ := m1
  refine gE_mono (Nat.le_refl d) (c_feed (by omega) l1 hl6 v1 v2 v3) ?_
  rintro _ _ ⟨rfl, a1, hag, q21, rfl⟩
  have q45 : a1 45 = a 21 := (hag 45 (by decide)).trans e21.symm
  refine ⟨_, rfl, gHp_of k4, gE_mono (Nat.le_refl d) (m_feed (w := upd2 w 20 1 (nI (kfeed v1 v2 v3 (len, a 21)).1)) (by omega) l2 hl6 v1 v2 v3) ?_⟩
  rintro _ _ ⟨rfl, a2, hag2, q45', rfl⟩
  rw [q45] at q45' ⊢
  have hok : kok (kfeed v1 v2 v3 (len, a 21)) := kfeed_ok ⟨hl6, hlf⟩
  have q21' : a2 21 = (kfeed v1 v2 v3 (len, a 21)).2 := (hag2 21 (by decide)).trans q21
  generalize kfeed v1 v2 v3 (len, a 21) = kk at hok q21' q45' q21
  have ra : ∀ l, l ≠ 21 → l ≠ 45 → a2 l = a l := fun l h1 h2 => by
    rw [hag2 l (by simp only [List.mem_cons, List.not_mem_nil, or_false]; exact h2), hag l (by simp only [List.mem_cons, List.not_mem_nil, or_false]; exact h1)]
  have ws : ∀ i, i ≠ 44 → i ≠ 20 → upd2 (gTh (upd2 w 20 1 (nI kk.1))) 44 2 (nI kk.1) i = w i := fun i hi h2 => by rw [upd2_row _ _ _ _ hi, gTh_row hi, upd2_row _ _ _ _ h2]
  refine ⟨rfl, J_of (N := N) (M := M) (T := T) (o := o) (p := p) (st := st) ⟨k1, by omega, by omega, k4, k5, k6, k7, ⟨⟨q21'.trans q45'.symm, kk.1, hok.1, rfl, rfl, fun i hi => by rw [q21']; exact hok.2 i hi⟩, ?_, ?_, ?_, m5, ?_, ?_, m8⟩, ?_, ?_, ?_⟩⟩
  · rw [ra 39 (by decide) (by decide), ra 79 (by decide) (by decide)]; exact m2
  · rw [ra 42 (by decide) (by decide), ra 80 (by decide) (by decide)]; exact m3
  · rw [ra 35 (by decide) (by decide), ra 71 (by decide) (by decide), ra 36 (by decide) (by decide), ra 72 (by decide) (by decide)]; exact jDbl_up m4
  · rw [ra 37 (by decide) (by decide), ra 73 (by decide) (by decide)]; exact m6
  · rw [ra 68 (by decide) (by decide)]; exact m7
  · exact jText_cg k9 (fun e he => by rw [ws _ (by omega) (by omega)]) rfl (fun i hi => ra i (fun e => absurd (e ▸ hi) (by decide)) (fun e => absurd (e ▸ hi) (by decide))) rfl rfl
  · exact jTh_cg k10 (Nat.le_refl _) rfl rfl (fun s hs => ws _ (by omega) (by omega)) (fun i _ _ => ra i (by omega) (by omega)) (ra 19 (by decide) (by decide)) (fun s hs => ra _ (by omega) (by omega))
  · exact jSa_cg k11 (Nat.le_refl _) rfl rfl (fun i hi => ra i (fun e => absurd (e ▸ hi) (by decide)) (fun e => absurd (e ▸ hi) (by decide))) (fun s hs => ra _ (by omega) (by omega)) (fun t _ h5 => by rw [ra 64 (by decide) (by decide), ra 65 (by decide) (by decide), ra 66 (by decide) (by decide)]; exact ⟨h5, rfl, rfl⟩) (fun _ _ => rfl) (fun _ => rfl)
end GJ6
