/-! ===== the calls that change things ===== -/
theorem upd2_nt {α : Type} (f : Nat → Nat → α) (j s : Nat) (x : α) {i t : Nat} (h : t ≠ s) : upd2 f j s x i t = f i t := by
  unfold upd2
  by_cases e : i = j
  · subst e; simp [h]
  · simp [e]
section GJ7
variable {K T n u N M n' u' N' M' : Nat} {w a x w' a' x' : Nat → Nat → Int32} {b b' : Nat → Nat → Int64} {r r' : Nat → Nat → Nat} {q q' : Nat → Nat → Option Nat} {D z D' z' : Nat → Nat} {o p st o' p' st' : Nat → Nat}
theorem jTh_set {T' : Nat} (h : jTh n w a x q D N T o) (h1 : w' 0 1 = w 0 1) (h25 : w' 44 25 = w 44 25) (hR : cRel w' a' x' o N a') (hx : ∀ i, (∀ t, t < N → i ≠ o t) → x' i = x i) (h61 : a' 61 = a 61) (hk : jWk N T' a') : jTh n w' a' x' q D N T' o := by
  obtain ⟨t1, t2, t3, t4, t5, t6, t7, t8, t9, t10⟩ := h
  refine ⟨t1, h1.trans t2, h25.trans t3, t4, t5, t6, fun i => ?_, hR, fun t ht => by rw [h61]; exact t9 t ht, hk⟩
  rw [hx 0 (fun t ht e => by have := (t4.1 t ht).2.1; omega)]
  exact t7 i
theorem jxp (ht : cTs q D N o) (hs : cSc q D z o p st N M) (hx : ∀ i, (∀ t, t < N → i ≠ o t) → x' i = x i) : ∀ j, j < M → x' (p j) = x (p j) := fun j hj => hx _ (fun t h e => by
  have h1 := (ht.1 t h).2.2
  have h2 := (hs j hj).2.1.2
  rw [← e, h2] at h1
  exact absurd h1 (by decide))
theorem gsrt_o {N : Nat} {rm : Nat → Int32} {now : Int32} {wy : Nat} {X : gP3} {t s t' : Nat} (h : t' ≠ t) : (gsrt N rm now wy X t s).1 t' = X.1 t' ∧ (gsrt N rm now wy X t s).2.1 t' = X.2.1 t' ∧ (gsrt N rm now wy X t s).2.2 t' = X.2.2 t' := by
  unfold gsrt
  split
  · exact ⟨if_neg h, if_neg h, if_neg h⟩
  · exact ⟨if_neg h, rfl, rfl⟩
theorem gsrt_si {N T : Nat} {rm : Nat → Int32} {wy : Nat} {X : gP3} {t s : Nat} (M : Nat) (h : ∀ t', t' < M → ∃ c, c ≤ T ∧ X.2.2 t' = nI c) : ∀ t', t' < M → ∃ c, c ≤ T ∧ (gsrt N rm (nI T) wy X t s).2.2 t' = nI c := by
  intro t' ht'
  unfold gsrt
  split
  · show ∃ c, c ≤ T ∧ (if t' = t then nI T else X.2.2 t') = nI c
    split
    · exact ⟨T, Nat.le_refl _, rfl⟩
    · exact h t' ht'
  · exact h t' ht'
/-- the rows at hand: cells of shops, rows of things -/
theorem cR_to {Z : Nat → Nat → Int32} (h : cRel w a x o N Z) (hw : ∀ s, s < 5 → w' (4 + 3 * s) = w (4 + 3 * s)) (hz : ∀ j, 60 ≤ j → j ≤ 70 → a' j = Z j) (h19 : a' 19 = a 19) (hl : ∀ s, s < 5 → a' (6 + 3 * s) = a (6 + 3 * s)) : cRel w' a' x o N a' := cRel_cg hz (cRel_a h19 hl (cRel_w hw h))
theorem cR_moves {Z : Nat → Nat → Int32} (h : cRel w a x o N Z) (hT : cTs q D N o) {t : Nat} (ht : t < N) (v : Int32) : cRel w a (upd2 x (o t) 7 v) o N (upd2 Z 67 t v) := by
  have e : ∀ c σ, gcnt (gOn (upd2 Z 67 t v) c σ) N = gcnt (gOn Z c σ) N := fun c σ => gcnt_congr N (fun i _ => by show (upd2 Z 67 _ _ 64 i = c ∧ upd2 Z 67 _ _ 65 i = σ) ↔ _; rw [upd2_row _ _ _ _ (by decide), upd2_row _ _ _ _ (by decide)])
  refine cR_mk h hT ht (fun i hi => upd2_row _ _ _ _ hi) (fun j t' ht' => upd2_nt _ _ _ _ ht') (fun i hi => ?_) (upd2_row _ _ _ _ (by decide)) (upd2_row _ _ _ _ (by decide)) (upd2_row _ _ _ _ (by decide)) (fun s hs => rfl) (fun s hs => by rw [e]; exact h.2.2.2.2.1 s hs) (fun s hs => by rw [e]; exact h.2.2.2.2.2 s hs)
  rw [upd2_at]
  by_cases c : i = 7
  · subst c; rw [if_pos rfl]; exact (upd2_same _ _ _ _).symm
  · rw [if_neg c, upd2_row _ _ _ _ (by omega)]; exact h.1 i hi t
end GJ7
section GJ8
variable {d K : Nat} {y : gH} {S : gS}
theorem j_lose (hd : 50 ≤ d) (h : J K y S) (v1 : Int32) : jTwo d K y 61 139 [.int v1] S := by
  obtain ⟨n, u, w, a, b, r, q, D, x, z, N, M, T, o, p, st, rfl, h0⟩ := h
  obtain ⟨k1, k2, k3, k4, k5, k6, k7, k8, k9, k10, k11⟩ := id h0
  obtain ⟨t1, t2, t3, t4, t5, t6, t7, t8, t9, t10⟩ := id k10
  obtain ⟨s1, s2, s3, s4, s5, s6, s7, s8⟩ := id k11
  obtain ⟨m1, m2, m3, m4, m5, m6, m7, m8⟩ := id k8
  have x1 : ∀ t, x (o t) 1 = a 61 t := t8.1 1 (by decide)
  have x4 : ∀ t, x (o t) 4 = a 64 t := t8.1 4 (by decide)
  have x5 : ∀ t, x (o t) 5 = a 65 t := t8.1 5 (by decide)
  have x6 : ∀ t, x (o t) 6 = a 66 t := t8.1 6 (by decide)
  have kx : ∀ t, t < N → gin (x (o t) 1) 8 := fun t ht => by rw [x1]; exact t9 t ht
  have sx : ∀ t, t < N → gin (x (o t) 5) 5 := fun t ht => by rw [x5]; exact t10.1 t ht
  have hst : ∀ j, j < M → gin (a 74 j) N := fun j hj => ⟨st j, (s4 j hj).2.2.2, (s5 j hj).2.1⟩
  refine gE_mono (Nat.le_refl d) (c_lose (by omega) t2 t1 t4 sx v1) ?_
  rintro _ _ (⟨t, s, ht, hs, rfl, e4, es, rfl, rfl⟩ | ⟨hn, rfl, rfl⟩)
  · rw [x4] at e4
    rw [x5] at es
    have fw : cfw w (upd2 (upd2 w (4 + 3 * s) 2 (w (4 + 3 * s) 2 + 1)) (4 + 3 * s) 1 (w (4 + 3 * s) 1 - 1)) := cfw_up (cfw_up cfw_rf hs _ _) hs _ _
    have fx : cfx o N x (upd2 x (o t) 4 6) := cfx_up cfx_rf ht (by decide) _
    have hR := cR_lose t8 t4 ht hs e4 es
    generalize upd2 (upd2 w (4 + 3 * s) 2 (w (4 + 3 * s) 2 + 1)) (4 + 3 * s) 1 (w (4 + 3 * s) 1 - 1) = w1 at fw hR
    have r0 : w1 0 = w 0 := fw 0 (fun s hs => by omega)
    have r44 : w1 44 = w 44 := fw 44 (fun s hs => by omega)
    refine ⟨_, rfl, gHp_of k4, gE_mono (Nat.le_refl d) (m_lose (by omega) (by rw [r44]; exact t3) t1 _) ?_⟩
    rintro _ _ (⟨t', ht', e1, e4', rfl, rfl⟩ | ⟨hn, rfl, rfl⟩)
    · have e := nI_inj e1 (by omega) (by omega)
      subst e
      refine ⟨rfl, J_of (N := N) (M := M) (o := o) (p := p) (st := st) (jI_up h0 (congrFun r0 16) (congrFun r0 17) (fun i hi => ?_) (fun s' hs' => ?_) (fun j hj => upd2_row _ _ _ _ (fun e => absurd (e ▸ hj) (by decide))) (Nat.le_refl _) (by omega) (by omega) k4 ?_ ?_)⟩
      · rw [gTh_row (fun e => absurd (e ▸ hi) (by decide))]
        exact fw i (fun s hs => by simp only [List.mem_cons, List.not_mem_nil, or_false] at hi; omega)
      · rw [gTh_col (fun e => absurd (e ▸ hs') (by decide)), r44]
      · exact jTh_set k10 (congrFun r0 1) (congrFun r44 25) (cR_to hR (fun s hs => gTh_row (by omega)) (fun j _ _ => rfl) rfl (fun s hs => upd2_row _ _ _ _ (by omega))) fx.1 rfl (jWk_cg t10 rfl rfl rfl)
      · exact jSa_cg k11 (Nat.le_refl _) (congrFun r0 3) (congrFun r44 41) (fun j hj => upd2_row _ _ _ _ (fun e => absurd (e ▸ hj) (by decide))) (fun s hs => upd2_row _ _ _ _ (by omega)) (fun t' _ h5 => ⟨by rw [upd2_nt _ _ _ _ (fun e => by rw [e, e4] at h5; exact absurd h5 (by decide))]; exact h5, rfl, rfl⟩) (jxp t4 s4 fx.1) fx.2
    · exact absurd ⟨t, ht, rfl, e4⟩ hn
  · refine ⟨_, rfl, gHp_of k4, gE_mono (Nat.le_refl d) (m_lose (by omega) t3 t1 _) ?_⟩
    rintro _ _ (⟨t', ht', e1, e4', rfl, rfl⟩ | ⟨hn', rfl, rfl⟩)
    · exact absurd ⟨t', ht', e1, by rw [x4]; exact e4'⟩ hn
    · exact ⟨rfl, J_of (jI_fr h0 jfw_Th gag_rf rfl (Nat.le_refl _) (by omega) (by omega))⟩
theorem j_move (hd : 50 ≤ d) (h : J K y S) (v1 : Int32) : jTwo d K y 68 145 [.int v1] S := by
  obtain ⟨n, u, w, a, b, r, q, D, x, z, N, M, T, o, p, st, rfl, h0⟩ := h
  obtain ⟨k1, k2, k3, k4, k5, k6, k7, k8, k9, k10, k11⟩ := id h0
  obtain ⟨t1, t2, t3, t4, t5, t6, t7, t8, t9, t10⟩ := id k10
  obtain ⟨s1, s2, s3, s4, s5, s6, s7, s8⟩ := id k11
  obtain ⟨m1, m2, m3, m4, m5, m6, m7, m8⟩ := id k8
  have x1 : ∀ t, x (o t) 1 = a 61 t := t8.1 1 (by decide)
  have x4 : ∀ t, x (o t) 4 = a 64 t := t8.1 4 (by decide)
  have x5 : ∀ t, x (o t) 5 = a 65 t := t8.1 5 (by decide)
  have x6 : ∀ t, x (o t) 6 = a 66 t := t8.1 6 (by decide)
  have kx : ∀ t, t < N → gin (x (o t) 1) 8 := fun t ht => by rw [x1]; exact t9 t ht
  have sx : ∀ t, t < N → gin (x (o t) 5) 5 := fun t ht => by rw [x5]; exact t10.1 t ht
  have hst : ∀ j, j < M → gin (a 74 j) N := fun j hj => ⟨st j, (s4 j hj).2.2.2, (s5 j hj).2.1⟩
  refine gE_mono (Nat.le_refl d) (c_move (by omega) t2 t1 t4 kx sx (j_ne h0) v1) ?_
  rintro _ _ (⟨t, k, s, s', ht, hk, hs, hs', rfl, e4, ek, es, ew, rfl, rfl⟩ | ⟨hn, rfl, rfl⟩)
  · rw [x4] at e4
    rw [x5] at es
    rw [x1] at ek
    rw [j_wh h0 ht hk hs] at ew
    have e7 : x (o t) 7 = a 67 t := t8.1 7 (by decide) t
    have fw : cfw w (upd2 (upd2 w (4 + 3 * s) 1 (w (4 + 3 * s) 1 - 1)) (4 + 3 * s') 1 (upd2 w (4 + 3 * s) 1 (w (4 + 3 * s) 1 - 1) (4 + 3 * s') 1 + 1)) := cfw_up (cfw_up cfw_rf hs _ _) hs' _ _
    have fx : cfx o N x (upd2 (upd2 (upd2 (upd2 (upd2 x (o t) 4 0) (o t) 4 1) (o t) 5 (nI s')) (o t) 6 (w 0 16)) (o t) 7 (x (o t) 7 + 1)) := cfx_up (cfx_up (cfx_up (cfx_up (cfx_up cfx_rf ht (by decide) _) ht (by decide) _) ht (by decide) _) ht (by decide) _) ht (by decide) _
    have hR1 := cR_leave (v := 0) t8 t4 ht hs e4 es (by decide) (by decide)
    have hR2 := cR_come (v := w 0 16) hR1 t4 ht hs' (by rw [upd2_same]; decide) (by rw [upd2_same]; decide)
    have hR := cR_moves hR2 t4 ht (x (o t) 7 + 1)
    rw [upd2_2 a 64 t 0 1, e7] at hR
    rw [e7] at fx ⊢
    generalize upd2 (upd2 w (4 + 3 * s) 1 (w (4 + 3 * s) 1 - 1)) (4 + 3 * s') 1 (upd2 w (4 + 3 * s) 1 (w (4 + 3 * s) 1 - 1) (4 + 3 * s') 1 + 1) = w1 at fw hR
    have r0 : w1 0 = w 0 := fw 0 (fun s hs => by omega)
    have r44 : w1 44 = w 44 := fw 44 (fun s hs => by omega)
    have ea : gwh (w1 44) a N M (jLa a) t k s = nI s' := by rw [r44]; exact ew
    refine ⟨_, rfl, gHp_of k4, gE_mono (Nat.le_refl d) (m_move (by omega) (by rw [r44]; exact t3) t1 (by rw [r44]; exact s3) s1 hst (jLa a) (j_la h0) t9 t10.1 _) ?_⟩
    rintro _ _ (⟨t', k', s1', s2', ht', hk', hs1, hs2, e1, e4', ek', es', ew', rfl, rfl⟩ | ⟨hn, rfl, rfl⟩)
    · have e := nI_inj e1 (by omega) (by omega)
      subst e
      have e := nI_inj (ek.symm.trans ek') (by omega) (by omega)
      subst e
      have e := nI_inj (es.symm.trans es') (by omega) (by omega)
      subst e
      have e := nI_inj (ea.symm.trans ew') (by omega) (by omega)
      subst e
      rw [r44, k7]
      rw [k6] at hR fx
      have ra : ∀ j, j ∉ [64, 65, 66, 67] → upd2 (upd2 (upd2 (upd2 a 64 t 1) 65 t (nI s')) 66 t (nI T)) 67 t (a 67 t + 1) j = a j := fun j hj => by
        simp only [List.mem_cons, List.not_mem_nil, or_false, not_or] at hj
        rw [upd2_row _ _ _ _ hj.2.2.2, upd2_row _ _ _ _ hj.2.2.1, upd2_row _ _ _ _ hj.2.1, upd2_row _ _ _ _ hj.1]
      rw [k6]
      refine ⟨rfl, J_of (N := N) (M := M) (o := o) (p := p) (st := st) (jI_up h0 (congrFun r0 16) (congrFun r0 17) (fun i hi => ?_) (fun s' hs' => ?_) (fun j hj => ra j (by simp only [List.mem_cons, List.not_mem_nil, or_false] at hj ⊢; omega)) (Nat.le_refl _) (by omega) (by omega) k4 ?_ ?_)⟩
      · rw [gTh_row (fun e => absurd (e ▸ hi) (by decide))]
        exact fw i (fun s hs => by simp only [List.mem_cons, List.not_mem_nil, or_false] at hi; omega)
      · rw [gTh_col (fun e => absurd (e ▸ hs') (by decide)), r44]
      · refine jTh_set k10 (congrFun r0 1) (congrFun r44 25) (cR_to hR (fun s hs => gTh_row (by omega)) (fun j _ _ => rfl) rfl (fun s hs => ra (6 + 3 * s) (by simp only [List.mem_cons, List.not_mem_nil, or_false]; omega))) fx.1 rfl ⟨fun i hi => ?_, fun i hi => ?_, t10.2.2⟩
        · show gin (upd2 (upd2 a 64 t 1) 65 t (nI s') 65 i) 5
          rw [upd2_at]
          split
          · exact ⟨s', hs', rfl⟩
          · exact t10.1 i hi
        · show ∃ c, c ≤ T ∧ upd2 (upd2 (upd2 a 64 t 1) 65 t (nI s')) 66 t (nI T) 66 i = nI c
          rw [upd2_at]
          split
          · exact ⟨T, Nat.le_refl _, rfl⟩
          · exact t10.2.1 i hi
      · exact jSa_cg k11 (Nat.le_refl _) (congrFun r0 3) (congrFun r44 41) (fun j hj => ra j (by simp only [List.mem_cons, List.not_mem_nil, or_false] at hj ⊢; omega)) (fun s hs => ra _ (by simp only [List.mem_cons, List.not_mem_nil, or_false]; omega)) (fun t' _ h5 => by
          have hne : t' ≠ t := fun e => by rw [e, e4] at h5; exact absurd h5 (by decide)
          rw [upd2_nt _ _ _ _ hne, upd2_nt _ _ _ _ hne, upd2_nt _ _ _ _ hne, upd2_nt _ _ _ _ hne, upd2_nt _ _ _ _ hne, upd2_nt _ _ _ _ hne, upd2_nt _ _ _ _ hne, upd2_nt _ _ _ _ hne, upd2_nt _ _ _ _ hne, upd2_nt _ _ _ _ hne, upd2_nt _ _ _ _ hne, upd2_nt _ _ _ _ hne]
          exact ⟨h5, rfl, rfl⟩) (jxp t4 s4 fx.1) fx.2
    · exact absurd ⟨t, k, s, ht, hk, hs, rfl, e4, ek, es, fun e => by rw [ea] at e; exact nI_pos (n := s') (by omega) (by rw [e]; decide)⟩ hn
  · refine ⟨_, rfl, gHp_of k4, gE_mono (Nat.le_refl d) (m_move (by omega) t3 t1 s3 s1 hst (jLa a) (j_la h0) t9 t10.1 _) ?_⟩
    rintro _ _ (⟨t', k', s1', s2', ht', hk', hs1, hs2, e1, e4', ek', es', ew', rfl, rfl⟩ | ⟨hn', rfl, rfl⟩)
    · exact absurd ⟨t', k', s1', ht', hk', hs1, e1, by rw [x4]; exact e4', by rw [x1]; exact ek', by rw [x5]; exact es', fun e => by rw [j_wh h0 ht' hk' hs1, ew'] at e; exact nI_pos (n := s2') (by omega) (by rw [e]; decide)⟩ hn
    · exact ⟨rfl, J_of (jI_fr h0 jfw_Th gag_rf rfl (Nat.le_refl _) (by omega) (by omega))⟩
theorem j_sort (hd : 50 ≤ d) (h : J K y S) (v1 v2 : Int32) : jTwo d K y 38 120 [.int v1, .int v2] S := by
  obtain ⟨n, u, w, a, b, r, q, D, x, z, N, M, T, o, p, st, rfl, h0⟩ := h
  obtain ⟨k1, k2, k3, k4, k5, k6, k7, k8, k9, k10, k11⟩ := id h0
  obtain ⟨t1, t2, t3, t4, t5, t6, t7, t8, t9, t10⟩ := id k10
  obtain ⟨s1, s2, s3, s4, s5, s6, s7, s8⟩ := id k11
  obtain ⟨m1, m2, m3, m4, m5, m6, m7, m8⟩ := id k8
  have x1 : ∀ t, x (o t) 1 = a 61 t := t8.1 1 (by decide)
  have x4 : ∀ t, x (o t) 4 = a 64 t := t8.1 4 (by decide)
  have x5 : ∀ t, x (o t) 5 = a 65 t := t8.1 5 (by decide)
  have x6 : ∀ t, x (o t) 6 = a 66 t := t8.1 6 (by decide)
  have kx : ∀ t, t < N → gin (x (o t) 1) 8 := fun t ht => by rw [x1]; exact t9 t ht
  have sx : ∀ t, t < N → gin (x (o t) 5) 5 := fun t ht => by rw [x5]; exact t10.1 t ht
  have hst : ∀ j, j < M → gin (a 74 j) N := fun j hj => ⟨st j, (s4 j hj).2.2.2, (s5 j hj).2.1⟩
  obtain ⟨e, hh, ls, he, hh2, r8, r9, h15, htx, hkx⟩ := id k9
  refine gE_mono (Nat.le_refl d) (c_sort (by omega) t2 t1 k6 (by omega) t4 t9 he r8 htx t8 v1 v2) ?_
  rintro _ _ (⟨t, s, k, w1, a1, xx, Z, ht, hs, hk, rfl, rfl, ek, e4, hR, hZ, hX, hag, fw, fx, rfl, rfl⟩ | ⟨hn, rfl, rfl⟩)
  · have r0 : w1 0 = w 0 := fw 0 (fun s hs => by omega)
    have r44 : w1 44 = w 44 := fw 44 (fun s hs => by omega)
    have ra1 : ∀ l, l ∉ jXf → a1 l = a l := cXs_f he hag
    have hkx1 : kTx a1 hh ls := by
      refine ⟨?_, hkx.2.1, kLn_cg ls 0 0 (fun j _ _ => ?_) (fun j _ _ => ?_) hkx.2.2.1, hkx.2.2.2⟩
      · rw [ra1 50 (by decide)]; exact hkx.1
      · rw [ra1 51 (by decide), ra1 52 (by decide)]; exact ⟨rfl, rfl⟩
      · rw [ra1 53 (by decide), ra1 54 (by decide)]; exact ⟨rfl, rfl⟩
    have e61 : a1 61 = a 61 := ra1 61 (by decide)
    have e64 : a1 64 = a 64 := ra1 64 (by decide)
    have e65 : a1 65 = a 65 := ra1 65 (by decide)
    have e66 : a1 66 = a 66 := ra1 66 (by decide)
    have efa : ∀ t k, gfa a1 T t k = gfa a T t k := fun t k => by
      funext l
      unfold gfa
      rw [e61, ra1 62 (by decide), ra1 63 (by decide), ra1 68 (by decide), ra1 60 (by decide)]
    refine ⟨_, rfl, gHp_of k4, gE_mono (Nat.le_refl d) (m_sort (by omega) (by rw [r44]; exact t3) t1 (by rw [r44]; exact k7) (by omega) (by rw [r44]; exact h15) hh2 (kTx_gm hh2 hkx1) (fun t ht => by rw [e61]; exact t9 t ht) _ _) ?_⟩
    rintro _ _ (⟨t', s', k', a2, ht', hs', hk', e1, e2, ek', e4', hag2, hX2, rfl, rfl⟩ | ⟨hn, rfl, rfl⟩)
    · have e9 := nI_inj e1 (by omega) (by omega)
      subst e9
      have e9 := nI_inj e2 (by omega) (by omega)
      subst e9
      rw [e61] at ek'
      have e9 := nI_inj (ek.symm.trans ek') (by omega) (by omega)
      subst e9
      rw [efa, ra1 69 (by decide), show gXo a1 = gXo a by unfold gXo; rw [e64, e65, e66]] at hX2
      have q64 : a2 64 = Z 64 := (congrArg (fun X : gP3 => X.1) hX2).trans (congrArg (fun X : gP3 => X.1) hX).symm
      have q65 : a2 65 = Z 65 := (congrArg (fun X : gP3 => X.2.1) hX2).trans (congrArg (fun X : gP3 => X.2.1) hX).symm
      have q66 : a2 66 = Z 66 := (congrArg (fun X : gP3 => X.2.2) hX2).trans (congrArg (fun X : gP3 => X.2.2) hX).symm
      have p64 : a2 64 = (gsrt N (a 69) (nI T) (gway (gfa a T t k) ls) (gXo a) t s).1 := congrArg (fun X : gP3 => X.1) hX2
      have p65 : a2 65 = (gsrt N (a 69) (nI T) (gway (gfa a T t k) ls) (gXo a) t s).2.1 := congrArg (fun X : gP3 => X.2.1) hX2
      have p66 : a2 66 = (gsrt N (a 69) (nI T) (gway (gfa a T t k) ls) (gXo a) t s).2.2 := congrArg (fun X : gP3 => X.2.2) hX2
      have ra2 : ∀ l, l ∉ [64, 65, 66] → l ∉ jXf → a2 l = a l := fun l h1 h2 => by
        rw [hag2 l (by simp only [List.mem_cons, List.not_mem_nil, or_false] at h1 h2 ⊢; omega)]
        exact ra1 l h2
      have hz : ∀ j, 60 ≤ j → j ≤ 70 → a2 j = Z j := fun j h1 h2 => by
        by_cases c64 : j = 64
        · rw [c64]; exact q64
        by_cases c65 : j = 65
        · rw [c65]; exact q65
        by_cases c66 : j = 66
        · rw [c66]; exact q66
        rw [ra2 j (by simp only [List.mem_cons, List.not_mem_nil, or_false]; omega) (by simp only [List.mem_cons, List.not_mem_nil, or_false]; omega), hZ j (by simp only [List.mem_cons, List.not_mem_nil, or_false]; omega)]
      refine ⟨by rw [q64], J_of (N := N) (M := M) (o := o) (p := p) (st := st) (jI_up h0 (congrFun r0 16) (congrFun r0 17) (fun i hi => ?_) (fun s' hs' => ?_) (fun j hj => ra2 j (by simp only [List.mem_cons, List.not_mem_nil, or_false] at hj ⊢; omega) (by simp only [List.mem_cons, List.not_mem_nil, or_false] at hj ⊢; omega)) (Nat.le_refl _) (by omega) (by omega) k4 ?_ ?_)⟩
      · rw [gTh_row (fun e => absurd (e ▸ hi) (by decide))]
        exact fw i (fun s hs => by simp only [List.mem_cons, List.not_mem_nil, or_false] at hi; omega)
      · rw [gTh_col (fun e => absurd (e ▸ hs') (by decide)), r44]
      · refine jTh_set k10 (congrFun r0 1) (congrFun r44 25) (cR_to hR (fun s hs => gTh_row (by omega)) hz (hag2 19 (by decide)) (fun s hs => hag2 _ (by simp only [List.mem_cons, List.not_mem_nil, or_false]; omega))) fx.1 (ra2 61 (by decide) (by decide)) ⟨?_, ?_, ?_⟩
        · rw [p65]; exact gsrt_sh hs N t10.1
        · rw [p66]; exact gsrt_si N t10.2.1
        · rw [ra2 70 (by decide) (by decide)]; exact t10.2.2
      · exact jSa_cg k11 (Nat.le_refl _) (congrFun r0 3) (congrFun r44 41) (fun j hj => ra2 j (by simp only [List.mem_cons, List.not_mem_nil, or_false] at hj ⊢; omega) (by simp only [List.mem_cons, List.not_mem_nil, or_false] at hj ⊢; omega)) (fun s hs => ra2 _ (by simp only [List.mem_cons, List.not_mem_nil, or_false]; omega) (by simp only [List.mem_cons, List.not_mem_nil, or_false]; omega)) (fun t' _ h5 => by
          have hne : t' ≠ t := fun e => by
            rw [e] at h5
            rw [h5] at e4
            exact absurd e4 (by decide)
          obtain ⟨g1, g2, g3⟩ := gsrt_o (N := N) (rm := a 69) (now := nI T) (wy := gway (gfa a T t k) ls) (X := gXo a) (s := s) hne
          rw [p64, p65, p66]
          exact ⟨g1.trans h5, g2, g3⟩) (jxp t4 s4 fx.1) fx.2
    · exact absurd ⟨t, ht, rfl, ⟨s, hs, rfl⟩, by rw [e64]; exact e4⟩ hn
  · refine ⟨_, rfl, gHp_of k4, gE_mono (Nat.le_refl d) (m_sort (by omega) t3 t1 k7 (by omega) h15 hh2 (kTx_gm hh2 hkx) t9 _ _) ?_⟩
    rintro _ _ (⟨t', s', k', a2, ht', hs', hk', e1, e2, ek', e4', hag2, hX2, rfl, rfl⟩ | ⟨hn', rfl, rfl⟩)
    · exact absurd ⟨t', ht', e1, ⟨s', hs', e2⟩, e4'⟩ hn
    · exact ⟨rfl, J_of (jI_fr h0 jfw_Th gag_rf rfl (Nat.le_refl _) (by omega) (by omega))⟩
end GJ8
