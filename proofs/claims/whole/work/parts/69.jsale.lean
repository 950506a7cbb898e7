/-! ===== the calls that make things and sales ===== -/
theorem gcnt_rem {p p' : Nat → Prop} [DecidablePred p] [DecidablePred p'] {j : Nat} (hj : ¬ p' j) (hp : ∀ i, i ≠ j → (p' i ↔ p i)) : ∀ n, j < n → gcnt p n = gcnt p' n + if p j then 1 else 0 := by
  intro n
  induction n with
  | zero => intro h; omega
  | succ n ih =>
    intro h
    simp only [gcnt]
    by_cases e : n = j
    · subst e
      rw [if_neg hj, gcnt_congr n (fun i hi => (hp i (by omega)).symm)]
      omega
    · rw [ih (by omega)]
      have := hp n e
      by_cases c : p n
      · rw [if_pos c, if_pos (this.mpr c)]; omega
      · rw [if_neg c, if_neg (mt this.mp c)]; omega
theorem gzu_o {z : Nat → Nat} {n v i : Nat} (h : i ≠ n) : gzu z n v i = z i := if_neg h
theorem gzu_s {z : Nat → Nat} {n v : Nat} : gzu z n v n = v := if_pos rfl
def jo (o : Nat → Nat) (N n : Nat) : Nat → Nat := fun t => if t = N then n else o t
theorem jo_s {o : Nat → Nat} {N n : Nat} : jo o N n N = n := if_pos rfl
theorem jo_o {o : Nat → Nat} {N n t : Nat} (h : t ≠ N) : jo o N n t = o t := if_neg h
section GJ9
variable {d K : Nat} {y : gH} {S : gS}
theorem j_give (hd : 50 ≤ d) (hK : K ≤ 600) (h : J K y S) (v1 v2 v3 v4 : Int32) : jTwo d K y 8 115 [.int v1, .int v2, .int v3, .int v4] S := by
  obtain ⟨n, u, w, a, b, r, q, D, x, z, N, M, T, o, p, st, rfl, h0⟩ := h
  obtain ⟨k1, k2, k3, k4, k5, k6, k7, k8, k9, k10, k11⟩ := id h0
  obtain ⟨t1, t2, t3, t4, t5, t6, t7, t8, t9, t10⟩ := id k10
  obtain ⟨s1, s2, s3, s4, s5, s6, s7, s8⟩ := id k11
  obtain ⟨m1, m2, m3, m4, m5, m6, m7, m8⟩ := id k8
  have x1 : ∀ t, x (o t) 1 = a 61 t := t8.1 1 (by decide)
  have x4 : ∀ t, x (o t) 4 = a 64 t := t8.1 4 (by decide)
  have x5 : ∀ t, x (o t) 5 = a 65 t := t8.1 5 (by decide)
  have x6 : ∀ t, x (o t) 6 = a 66 t := t8.1 6 (by decide)
  have kx : ∀ t, t < N → gin (x (o t) 1) 8 := fun t ht => by rw [x1]; exact t9 t ht
  have sx : ∀ t, t < N → gin (x (o t) 5) 5 := fun t ht => by rw [x5]; exact t10.1 t ht
  have hst : ∀ j, j < M → gin (a 74 j) N := fun j hj => ⟨st j, (s4 j hj).2.2.2, (s5 j hj).2.1⟩
  refine gE_mono (Nat.le_refl d) (c_give (by omega) t2 t1 k1 (by omega) v1 v2 v3 v4) ?_
  rintro _ _ (⟨j1, j2, j3, j4, hj1, hj2, hj3, hj4, hN, rfl, rfl, rfl, rfl, rfl, rfl⟩ | ⟨hn, rfl, rfl⟩)
  · refine ⟨_, rfl, gHp_of (by rw [gDu_o (by omega)]; exact k4), gE_mono (Nat.le_refl d) (m_give (w := upd2 w 0 1 (nI (N + 1))) (by omega) t3 t1 _ _ _ _) ?_⟩
    rintro _ _ (⟨i1, i2, i3, i4, hi1, hi2, hi3, hi4, hN', e1, e2, e3, e4, rfl, rfl⟩ | ⟨hn, rfl, rfl⟩)
    · have ws : ∀ i, i ≠ 44 → i ≠ 0 → upd2 (gTh (upd2 w 0 1 (nI (N + 1)))) 44 25 (nI (N + 1)) i = w i := fun i hi h2 => by rw [upd2_row _ _ _ _ hi, gTh_row hi, upd2_row _ _ _ _ h2]
      have ra : ∀ j, j ∉ [60, 61, 62, 63, 64] → upd2 (upd2 (upd2 (upd2 (upd2 a 60 N (nI j1)) 61 N (nI j2)) 62 N (nI j3)) 63 N (nI j4)) 64 N 0 j = a j := fun j hj => by
        simp only [List.mem_cons, List.not_mem_nil, or_false, not_or] at hj
        rw [upd2_row _ _ _ _ hj.2.2.2.2, upd2_row _ _ _ _ hj.2.2.2.1, upd2_row _ _ _ _ hj.2.2.1, upd2_row _ _ _ _ hj.2.1, upd2_row _ _ _ _ hj.1]
      have rn : ∀ j t, t ≠ N → upd2 (upd2 (upd2 (upd2 (upd2 a 60 N (nI j1)) 61 N (nI j2)) 62 N (nI j3)) 63 N (nI j4)) 64 N 0 j t = a j t := fun j t ht => by
        rw [upd2_nt _ _ _ _ ht, upd2_nt _ _ _ _ ht, upd2_nt _ _ _ _ ht, upd2_nt _ _ _ _ ht, upd2_nt _ _ _ _ ht]
      have a0 : ∀ i, i < 8 → a (60 + i) N = 0 := fun i hi => by rw [← t8.1 i hi N, t6 N (Nat.le_refl _)]; exact t7 i
      have rN : ∀ i, i < 8 → upd2 (upd2 (upd2 (upd2 (upd2 a 60 N (nI j1)) 61 N (nI j2)) 62 N (nI j3)) 63 N (nI j4)) 64 N 0 (60 + i) N = gthn (nI j1) (nI j2) (nI j3) (nI j4) i := fun i hi => by
        match i, hi with
        | 0, _ => simp [upd2, gthn]
        | 1, _ => simp [upd2, gthn]
        | 2, _ => simp [upd2, gthn]
        | 3, _ => simp [upd2, gthn]
        | 4, _ => simp [upd2, gthn]
        | 5, _ => exact a0 5 (by decide)
        | 6, _ => exact a0 6 (by decide)
        | 7, _ => exact a0 7 (by decide)
      have n64 : upd2 (upd2 (upd2 (upd2 (upd2 a 60 N (nI j1)) 61 N (nI j2)) 62 N (nI j3)) 63 N (nI j4)) 64 N 0 64 N = 0 := rN 4 (by decide)
      have n61 : upd2 (upd2 (upd2 (upd2 (upd2 a 60 N (nI j1)) 61 N (nI j2)) 62 N (nI j3)) 63 N (nI j4)) 64 N 0 61 N = nI j2 := rN 1 (by decide)
      have n65 : upd2 (upd2 (upd2 (upd2 (upd2 a 60 N (nI j1)) 61 N (nI j2)) 62 N (nI j3)) 63 N (nI j4)) 64 N 0 65 N = 0 := rN 5 (by decide)
      have n66 : upd2 (upd2 (upd2 (upd2 (upd2 a 60 N (nI j1)) 61 N (nI j2)) 62 N (nI j3)) 63 N (nI j4)) 64 N 0 66 N = 0 := rN 6 (by decide)
      generalize upd2 (upd2 (upd2 (upd2 (upd2 a 60 N (nI j1)) 61 N (nI j2)) 62 N (nI j3)) 63 N (nI j4)) 64 N 0 = A at ra rn rN n64 n61 n65 n66
      have on : ∀ t, o t ≠ n := fun t e => by
        rcases Nat.lt_or_ge t N with c | c
        · have := t5 t c; omega
        · have := t6 t c; omega
      have pn : ∀ j, j < M → p j ≠ n := fun j hj e => by have := (s5 j hj).1; omega
      have hcnt : ∀ c σ, ¬ c = 0 → gcnt (gOn A c σ) (N + 1) = gcnt (gOn a c σ) N := fun c σ hc => by
        have hc2 := gcnt_congr (p := gOn A c σ) (p' := gOn a c σ) N (fun i hi => by
          show (A 64 i = c ∧ A 65 i = σ) ↔ _
          rw [rn 64 i (by omega), rn 65 i (by omega)])
        simp only [gcnt]
        rw [if_neg (fun h => hc (h.1.symm.trans n64)), hc2, Nat.add_zero]
      have hcT : cTs (upd2 q 1 N (some n)) (gDu D n 1) (N + 1) (jo o N n) := by
        refine ⟨fun t ht => ?_, fun t ht t' e => ?_⟩
        · by_cases c : t = N
          · subst c
            rw [jo_s]
            exact ⟨upd2_same _ _ _ _, k1, gDu_s⟩
          · rw [jo_o c, upd2_col _ _ _ _ c]
            refine ⟨(t4.1 t (by omega)).1, (t4.1 t (by omega)).2.1, ?_⟩
            rw [gDu_o (on t)]; exact (t4.1 t (by omega)).2.2
        · by_cases c : t = N
          · subst c
            rw [jo_s] at e
            by_cases c' : t' = t
            · exact c'
            · rw [jo_o c'] at e; exact absurd e (on t')
          · rw [jo_o c] at e
            by_cases c' : t' = N
            · subst c'; rw [jo_s] at e; exact absurd e.symm (on t)
            · rw [jo_o c'] at e; exact t4.2 t (by omega) t' e
      refine ⟨rfl, J_of (N := N + 1) (M := M) (o := jo o N n) (p := p) (st := st) (jI_up h0 rfl rfl (fun i hi => ?_) (fun s' hs' => ?_) (fun j hj => ra j (by simp only [List.mem_cons, List.not_mem_nil, or_false] at hj ⊢; omega)) (by omega) (by omega) (by omega) ?_ ?_ ?_)⟩
      · exact ws i (fun e => absurd (e ▸ hi) (by decide)) (fun e => absurd (e ▸ hi) (by decide))
      · simp only [List.mem_cons, List.not_mem_nil, or_false] at hs'
        rw [upd2_col _ _ _ _ (by omega), gTh_col (by omega), upd2_row _ _ _ _ (by decide)]
      · rw [gDu_o (by omega)]; exact k4
      · refine ⟨by omega, rfl, rfl, hcT, fun t ht => ?_, fun t ht => ?_, fun i => ?_, ⟨fun i hi t => ?_, ?_, fun s hs => ?_, fun s k hs hk => ?_, fun s hs => ?_, fun s hs => ?_⟩, fun t ht => ?_, fun t ht => ?_, fun t ht => ?_, ?_⟩
        · by_cases c : t = N
          · subst c; rw [jo_s]; omega
          · rw [jo_o c]; have := t5 t (by omega); omega
        · rw [jo_o (by omega)]; exact t6 t (by omega)
        · rw [gxu_o (by omega)]; exact t7 i
        · by_cases c : t = N
          · subst c; rw [jo_s, gxu_s]; exact (rN i hi).symm
          · rw [jo_o c, gxu_o (on t), rn _ _ c]; exact t8.1 i hi t
        · rw [ra 19 (by decide), ra 68 (by decide)]; exact t8.2.1
        · rw [ws _ (by omega) (by omega), ra 69 (by decide)]; exact t8.2.2.1 s hs
        · rw [ra (6 + 3 * s) (by simp only [List.mem_cons, List.not_mem_nil, or_false]; omega), ra 70 (by decide)]; exact t8.2.2.2.1 s k hs hk
        · rw [ws _ (by omega) (by omega), hcnt _ _ (by decide)]; exact t8.2.2.2.2.1 s hs
        · rw [ws _ (by omega) (by omega), hcnt _ _ (by decide)]; exact t8.2.2.2.2.2 s hs
        · by_cases c : t = N
          · subst c; rw [n61]; exact ⟨j2, hj2, rfl⟩
          · rw [rn _ _ c]; exact t9 t (by omega)
        · by_cases c : t = N
          · subst c; rw [n65]; exact ⟨0, by decide, rfl⟩
          · rw [rn _ _ c]; exact t10.1 t (by omega)
        · by_cases c : t = N
          · subst c; rw [n66]; exact ⟨0, by omega, rfl⟩
          · rw [rn _ _ c]; exact t10.2.1 t (by omega)
        · rw [ra 70 (by decide)]; exact t10.2.2
      · refine ⟨s1, s2, s3, fun j hj => ?_, fun j hj => ?_, s6, fun j hj => ?_, fun s k hs hk => ?_⟩
        · obtain ⟨g1, g2, g3, g4⟩ := s4 j hj
          refine ⟨g1, ⟨g2.1, ?_⟩, ?_, by omega⟩
          · rw [gDu_o (pn j hj)]; exact g2.2
          · rw [jo_o (by omega)]; exact g3
        · have hsj := (s4 j hj).2.2.2
          obtain ⟨g1, g2, g3, g4, g5, g6, g7, g8, g9⟩ := s5 j hj
          unfold jSj
          rw [gxu_o (pn j hj), ra 74 (by decide), ra 75 (by decide), ra 76 (by decide), ra 77 (by decide), ra 78 (by decide), ra 65 (by decide), ra 66 (by decide), rn 64 (st j) (by omega), jo_o (by omega), gxu_o (on (st j))]
          exact ⟨by omega, g2, g3, g4, g5, g6, g7, g8, g9⟩
        · rw [ra 78 (by decide)]; exact s7 j hj
        · rw [ra (5 + 3 * s) (by simp only [List.mem_cons, List.not_mem_nil, or_false]; omega), gSo_cg (a := a) (fun j hj => ?_) (fun _ _ => by rw [ra 74 (by decide)]) (fun _ _ => by rw [ra 76 (by decide)]) (fun _ _ => by rw [ra 78 (by decide)])]
          · exact s8 s k hs hk
          · have hsj := (s4 j hj).2.2.2
            rw [(s5 j hj).2.1, nI_clamp (by omega)]
            exact rn 61 (st j) (by omega)
    · exact absurd ⟨⟨j1, hj1, rfl⟩, ⟨j2, hj2, rfl⟩, ⟨j3, hj3, rfl⟩, ⟨j4, hj4, rfl⟩, hN⟩ hn
  · refine ⟨_, rfl, gHp_of k4, gE_mono (Nat.le_refl d) (m_give (by omega) t3 t1 _ _ _ _) ?_⟩
    rintro _ _ (⟨i1, i2, i3, i4, hi1, hi2, hi3, hi4, hN', e1, e2, e3, e4, rfl, rfl⟩ | ⟨hn', rfl, rfl⟩)
    · exact absurd ⟨⟨i1, hi1, e1⟩, ⟨i2, hi2, e2⟩, ⟨i3, hi3, e3⟩, ⟨i4, hi4, e4⟩, hN'⟩ hn
    · exact ⟨rfl, J_of (jI_fr h0 jfw_Th gag_rf rfl (Nat.le_refl _) (by omega) (by omega))⟩
theorem j_undo (hd : 50 ≤ d) (h : J K y S) (v1 : Int32) : jTwo d K y 60 138 [.int v1] S := by
  obtain ⟨n, u, w, a, b, r, q, D, x, z, N, M, T, o, p, st, rfl, h0⟩ := h
  obtain ⟨k1, k2, k3, k4, k5, k6, k7, k8, k9, k10, k11⟩ := id h0
  obtain ⟨t1, t2, t3, t4, t5, t6, t7, t8, t9, t10⟩ := id k10
  obtain ⟨s1, s2, s3, s4, s5, s6, s7, s8⟩ := id k11
  obtain ⟨m1, m2, m3, m4, m5, m6, m7, m8⟩ := id k8
  have x1 : ∀ t, x (o t) 1 = a 61 t := t8.1 1 (by decide)
  have x4 : ∀ t, x (o t) 4 = a 64 t := t8.1 4 (by decide)
  have x5 : ∀ t, x (o t) 5 = a 65 t := t8.1 5 (by decide)
  have x6 : ∀ t, x (o t) 6 = a 66 t := t8.1 6 (by decide)
  have kx : ∀ t, t < N → gin (x (o t) 1) 8 := fun t ht => by rw [x1]; exact t9 t ht
  have sx : ∀ t, t < N → gin (x (o t) 5) 5 := fun t ht => by rw [x5]; exact t10.1 t ht
  have hst : ∀ j, j < M → gin (a 74 j) N := fun j hj => ⟨st j, (s4 j hj).2.2.2, (s5 j hj).2.1⟩
  have opd : ∀ t j, j < M → o t ≠ p j := fun t j hj e => by
    have h2 := (s4 j hj).2.1
    rcases Nat.lt_or_ge t N with c | c
    · have h1 := (t4.1 t c).2.2
      rw [e, h2.2] at h1
      exact absurd h1 (by decide)
    · have := t6 t c
      have := h2.1
      omega
  refine gE_mono (Nat.le_refl d) (c_undo (by omega) s2 s1 t4 s4 kx (fun j hj => by rw [(s5 j hj).2.2.1]; exact (s5 j hj).2.2.2.2.2.2.1) v1) ?_
  rintro _ _ (⟨j, k, s, hj, hk, hs, rfl, e5, e8, ek, es, rfl, rfl⟩ | ⟨hn, rfl, rfl⟩)
  · obtain ⟨g1, g2, g3, g4, g5, g6, g7, g8, g9⟩ := s5 j hj
    have hsj := (s4 j hj).2.2.2
    have h78 : a 78 j = 0 := g6.symm.trans e5
    obtain ⟨f1, f2, f3, f4⟩ := g9 h78
    rw [x1] at ek
    have e76 : a 76 j = nI s := g3.symm.trans es
    have hR0 : cRel w a (upd2 x (p j) 5 1) o N a := cRel_x (fun i _ t => by rw [upd2_row _ _ _ _ (opd t j hj)]) t8
    have hR := cR_come (v := x (p j) 2) hR0 t4 hsj hs (by rw [f3]; decide) (by rw [f3]; decide)
    have ez : upd2 (upd2 (upd2 a 64 (st j) 1) 65 (st j) (nI s)) 66 (st j) (x (p j) 2) = upd2 a 64 (st j) 1 := by
      rw [upd2_id (f := upd2 a 64 (st j) 1) (j := 65) (s := st j) (x := nI s) (by rw [upd2_row _ _ _ _ (by decide)]; exact f2.trans e76), upd2_id (f := upd2 a 64 (st j) 1) (j := 66) (s := st j) (x := x (p j) 2) (by rw [upd2_row _ _ _ _ (by decide)]; exact f1.symm)]
    rw [ez] at hR
    have fw : cfw w (upd2 w (4 + 3 * s) 1 (w (4 + 3 * s) 1 + 1)) := cfw_up cfw_rf hs _ _
    have x8 : ∀ i, upd2 (upd2 (upd2 (upd2 x (p j) 5 1) (o (st j)) 4 1) (o (st j)) 5 (nI s)) (o (st j)) 6 (x (p j) 2) i 8 = x i 8 := fun i => by
      rw [upd2_nt _ _ _ _ (by decide), upd2_nt _ _ _ _ (by decide), upd2_nt _ _ _ _ (by decide), upd2_nt _ _ _ _ (by decide)]
    have xo : ∀ i, i ≠ o (st j) → i ≠ p j → upd2 (upd2 (upd2 (upd2 x (p j) 5 1) (o (st j)) 4 1) (o (st j)) 5 (nI s)) (o (st j)) 6 (x (p j) 2) i = x i := fun i h1 h2 => by
      rw [upd2_row _ _ _ _ h1, upd2_row _ _ _ _ h1, upd2_row _ _ _ _ h1, upd2_row _ _ _ _ h2]
    have xp : upd2 (upd2 (upd2 (upd2 x (p j) 5 1) (o (st j)) 4 1) (o (st j)) 5 (nI s)) (o (st j)) 6 (x (p j) 2) (p j) = upd2 x (p j) 5 1 (p j) := by
      rw [upd2_row _ _ _ _ (opd _ j hj).symm, upd2_row _ _ _ _ (opd _ j hj).symm, upd2_row _ _ _ _ (opd _ j hj).symm]
    generalize upd2 (upd2 (upd2 (upd2 x (p j) 5 1) (o (st j)) 4 1) (o (st j)) 5 (nI s)) (o (st j)) 6 (x (p j) 2) = xx at hR x8 xo xp
    generalize upd2 w (4 + 3 * s) 1 (w (4 + 3 * s) 1 + 1) = w1 at fw hR
    have r0 : w1 0 = w 0 := fw 0 (fun s hs => by omega)
    have r44 : w1 44 = w 44 := fw 44 (fun s hs => by omega)
    have so : ∀ i, (∀ s', s' < 5 → i ≠ 5 + 3 * s') → upd2 a (5 + 3 * s) k (a (5 + 3 * s) k - 1) i = a i := fun i hi => upd2_row _ _ _ _ (hi s hs)
    have so1 : ∀ i, 18 < i → upd2 a (5 + 3 * s) k (a (5 + 3 * s) k - 1) i = a i := fun i hi => so i (fun s' hs' => by omega)
    refine ⟨_, rfl, gHp_of k4, gE_mono (Nat.le_refl d) (m_undo t1 (by rw [r44]; exact s3) s1 (fun j hj => by rw [so1 74 (by decide)]; exact hst j hj) _) ?_⟩
    rintro _ _ (⟨j', t', hj', ht', e1, e74, e78, rfl, rfl⟩ | ⟨hn, rfl, rfl⟩)
    · have e := nI_inj e1 (by omega) (by omega)
      subst e
      rw [so1 74 (by decide)] at e74
      have e := nI_inj (g2.symm.trans e74) (by omega) (by omega)
      subst e
      have ra : ∀ i, i ∉ [64, 78] → upd2 (upd2 (upd2 a (5 + 3 * s) k (a (5 + 3 * s) k - 1)) 78 j 1) 64 (st j) 1 i = upd2 a (5 + 3 * s) k (a (5 + 3 * s) k - 1) i := fun i hi => by
        simp only [List.mem_cons, List.not_mem_nil, or_false, not_or] at hi
        rw [upd2_row _ _ _ _ hi.1, upd2_row _ _ _ _ hi.2]
      have ra1 : ∀ i, 18 < i → i ∉ [64, 78] → upd2 (upd2 (upd2 a (5 + 3 * s) k (a (5 + 3 * s) k - 1)) 78 j 1) 64 (st j) 1 i = a i := fun i h1 h2 => (ra i h2).trans (so1 i h1)
      have r64 : upd2 (upd2 (upd2 a (5 + 3 * s) k (a (5 + 3 * s) k - 1)) 78 j 1) 64 (st j) 1 64 = upd2 a 64 (st j) 1 64 := by
        funext i
        rw [upd2_at, upd2_at, upd2_row _ _ _ _ (by decide), so1 64 (by decide)]
      have r78 : ∀ i, upd2 (upd2 (upd2 a (5 + 3 * s) k (a (5 + 3 * s) k - 1)) 78 j 1) 64 (st j) 1 78 i = if i = j then 1 else a 78 i := fun i => by
        rw [upd2_row _ _ _ _ (by decide), upd2_at, so1 78 (by decide)]
      generalize upd2 (upd2 (upd2 a (5 + 3 * s) k (a (5 + 3 * s) k - 1)) 78 j 1) 64 (st j) 1 = A at ra ra1 r64 r78
      refine ⟨rfl, J_of (N := N) (M := M) (o := o) (p := p) (st := st) (jI_up h0 (congrFun r0 16) (congrFun r0 17) (fun i hi => ?_) (fun s' hs' => ?_) (fun j hj => ra1 j (by simp only [List.mem_cons, List.not_mem_nil, or_false] at hj; omega) (by simp only [List.mem_cons, List.not_mem_nil, or_false] at hj ⊢; omega)) (Nat.le_refl _) (by omega) (by omega) k4 ?_ ?_)⟩
      · rw [gTh_row (fun e => absurd (e ▸ hi) (by decide))]
        exact fw i (fun s hs => by simp only [List.mem_cons, List.not_mem_nil, or_false] at hi; omega)
      · rw [gTh_col (fun e => absurd (e ▸ hs') (by decide)), r44]
      · refine ⟨t1, (congrFun r0 1).trans t2, (congrFun r44 25).trans t3, t4, t5, t6, fun i => ?_, cR_to (a := a) hR (fun s hs => gTh_row (by omega)) (fun i h1 h2 => ?_) (ra1 19 (by decide) (by decide)) (fun s' hs' => ?_), fun t ht => by rw [ra1 61 (by decide) (by decide)]; exact t9 t ht, jWk_cg t10 (ra1 65 (by decide) (by decide)) (ra1 66 (by decide) (by decide)) (ra1 70 (by decide) (by decide))⟩
        · rw [xo 0 (fun e => by have := (t4.1 _ hsj).2.1; omega) (fun e => by have := (s4 j hj).2.1.1; omega)]; exact t7 i
        · by_cases c : i = 64
          · rw [c]; exact r64
          · rw [ra1 i (by omega) (by simp only [List.mem_cons, List.not_mem_nil, or_false]; omega), upd2_row _ _ _ _ c]
        · rw [ra (6 + 3 * s') (by simp only [List.mem_cons, List.not_mem_nil, or_false]; omega)]
          exact so _ (fun s'' hs'' => by omega)
      · refine ⟨s1, (congrFun r0 3).trans s2, (congrFun r44 41).trans s3, s4, fun i hi => ?_, s6, fun i hi => ?_, fun s' k' hs' hk' => ?_⟩
        · have hsi := (s4 i hi).2.2.2
          by_cases c : i = j
          · subst c
            unfold jSj
            rw [xp, ra1 74 (by decide) (by decide), ra1 75 (by decide) (by decide), ra1 76 (by decide) (by decide), ra1 77 (by decide) (by decide), r78, if_pos rfl]
            refine ⟨g1, g2, ?_, ?_, ?_, upd2_same _ _ _ _, g7, Or.inr rfl, fun h => absurd h (by decide)⟩
            · rw [upd2_col _ _ _ _ (by decide)]; exact g3
            · rw [upd2_col _ _ _ _ (by decide)]; exact g4
            · rw [upd2_col _ _ _ _ (by decide)]; exact g5
          · obtain ⟨p1, p2, p3, p4, p5, p6, p7, p8, p9⟩ := s5 i hi
            unfold jSj
            rw [xo (p i) (fun e => opd (st j) i hi e.symm) (fun e => c (s6 j hj i hi e)), ra1 74 (by decide) (by decide), ra1 75 (by decide) (by decide), ra1 76 (by decide) (by decide), ra1 77 (by decide) (by decide), r78, if_neg c, x8, ra1 65 (by decide) (by decide), ra1 66 (by decide) (by decide), r64]
            refine ⟨p1, p2, p3, p4, p5, p6, p7, p8, fun h => ?_⟩
            obtain ⟨q1, q2, q3, q4⟩ := p9 h
            refine ⟨q1, q2, ?_, q4⟩
            rw [upd2_col _ _ _ _ (fun e => c (by rw [e, f4] at q4; exact (nI_inj q4 (by omega) (by omega)).symm))]
            exact q3
        · rw [r78, if_neg (by omega)]; exact s7 i hi
        · rw [ra (5 + 3 * s') (by simp only [List.mem_cons, List.not_mem_nil, or_false]; omega)]
          have hc := gcnt_rem (p := gSo a (nI k') (nI s')) (p' := gSo A (nI k') (nI s')) (j := j) (fun h => by
            have h1 : A 78 j = 0 := h.1
            rw [r78, if_pos rfl] at h1
            exact absurd h1 (by decide)) (fun i hi => by
            show (A 78 i = 0 ∧ A 76 i = nI s' ∧ A 61 (A 74 i).toNatClampNeg = nI k') ↔ _
            rw [r78, if_neg hi, ra1 76 (by decide) (by decide), ra1 61 (by decide) (by decide), ra1 74 (by decide) (by decide)]) M hj
          have hold := s8 s' k' hs' hk'
          have hcl : (a 74 j).toNatClampNeg = st j := by rw [g2]; exact nI_clamp (by omega)
          by_cases c : s' = s ∧ k' = k
          · obtain ⟨rfl, rfl⟩ := c
            rw [if_pos (show gSo a (nI k') (nI s') j from ⟨h78, e76, by rw [hcl]; exact ek⟩)] at hc
            rw [upd2_same, hold, hc]
            exact nI_pred _
          · rw [if_neg (fun h => ?_), Nat.add_zero] at hc
            · rw [← hc, ← hold]
              by_cases c1 : s' = s
              · subst c1
                rw [upd2_col _ _ _ _ (fun e => c ⟨rfl, e⟩)]
              · rw [upd2_row _ _ _ _ (by omega)]
            · obtain ⟨h1, h2, h3⟩ := h
              have h2' : a 76 j = nI s' := h2
              have h3' : a 61 (a 74 j).toNatClampNeg = nI k' := h3
              rw [hcl] at h3'
              exact c ⟨nI_inj (h2'.symm.trans e76) (by omega) (by omega), nI_inj (h3'.symm.trans ek) (by omega) (by omega)⟩
    · exact absurd ⟨j, hj, rfl, by rw [so1 78 (by decide)]; exact h78⟩ hn
  · refine ⟨_, rfl, gHp_of k4, gE_mono (Nat.le_refl d) (m_undo t1 s3 s1 hst _) ?_⟩
    rintro _ _ (⟨j', t', hj', ht', e1, e74, e78, rfl, rfl⟩ | ⟨hn', rfl, rfl⟩)
    · obtain ⟨g1, g2, g3, g4, g5, g6, g7, g8, g9⟩ := s5 j' hj'
      exact absurd ⟨j', hj', e1, g6.trans e78, (g9 e78).2.2.2⟩ hn
    · exact ⟨rfl, J_of (jI_fr h0 jfw_Th gag_rf rfl (Nat.le_refl _) (by omega) (by omega))⟩
end GJ9
