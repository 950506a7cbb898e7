-- deps: 37 38 39 50 51 52 53
/-! ===== the class: weeks ===== -/
theorem cR_lain {w a x Z : Nat → Nat → Int32} {o : Nat → Nat} {N s k : Nat} (h : cRel w a x o N Z) (hs : s < 5) (hk : k < 8) : cRel w (upd2 a (6 + 3 * s) k (a (6 + 3 * s) k + 1)) x o N (upd2 Z 70 (8 * s + k) (Z 70 (8 * s + k) + 1)) := by
  obtain ⟨g1, g2, g3, g4, g5, g6⟩ := h
  have e : ∀ c σ, gcnt (gOn (upd2 Z 70 (8 * s + k) (Z 70 (8 * s + k) + 1)) c σ) N = gcnt (gOn Z c σ) N := fun c σ => gcnt_congr N (fun i _ => by show (upd2 Z 70 _ _ 64 i = c ∧ upd2 Z 70 _ _ 65 i = σ) ↔ _; rw [upd2_row _ _ _ _ (by decide), upd2_row _ _ _ _ (by decide)])
  refine ⟨fun i hi t => ?_, ?_, fun s' hs' => ?_, fun s' k' hs' hk' => ?_, fun s' hs' => ?_, fun s' hs' => ?_⟩
  · rw [upd2_row _ _ _ _ (by omega)]; exact g1 i hi t
  · rw [upd2_row _ _ _ _ (by omega), upd2_row _ _ _ _ (by decide)]; exact g2
  · rw [upd2_row _ _ _ _ (by decide)]; exact g3 s' hs'
  · rw [upd2_at]
    by_cases es : s' = s
    · subst es
      rw [upd2_at]
      by_cases ek : k' = k
      · subst ek; rw [if_pos rfl, if_pos rfl, g4 s' k' hs' hk']
      · rw [if_neg ek, if_neg (by omega)]; exact g4 s' k' hs' hk'
    · rw [upd2_row _ _ _ _ (by omega), if_neg (by omega)]; exact g4 s' k' hs' hk'
  · rw [e]; exact g5 s' hs'
  · rw [e]; exact g6 s' hs'
/-- the rows as the week has passed over t things -/
def gZt (Z : Nat → Nat → Int32) (T t : Nat) : Nat → Nat → Int32 := fun j => if j = 64 then (grag t (nI (T + 1)) (gXo Z)).1 else if j = 70 then (fun i => Z 70 i + nI (glc (Z 64) (Z 65) (Z 61) i t)) else Z j
theorem gZt_o {Z : Nat → Nat → Int32} {T t j : Nat} (h1 : j ≠ 64) (h2 : j ≠ 70) : gZt Z T t j = Z j := by unfold gZt; rw [if_neg h1, if_neg h2]
theorem gZt_0 {Z : Nat → Nat → Int32} {T : Nat} : gZt Z T 0 = Z := by
  funext j i
  unfold gZt
  by_cases e : j = 64
  · subst e; simp [grag]
  · rw [if_neg e]
    by_cases e2 : j = 70
    · subst e2
      rw [if_pos rfl]
      show Z 70 i + nI 0 = _
      exact Int32.add_zero _
    · rw [if_neg e2]
theorem gZt_n {Z : Nat → Nat → Int32} {T t : Nat} (h : ¬ Z 64 t = 1) : gZt Z T (t + 1) = gZt Z T t := by
  funext j
  unfold gZt
  by_cases e : j = 64
  · rw [if_pos e, if_pos e]; exact (grag_n (X := gXo Z) (fun hc => h hc.1)).symm
  · rw [if_neg e, if_neg e]
    by_cases e2 : j = 70
    · rw [if_pos e2, if_pos e2]
      funext i
      show _ + nI (glc (Z 64) (Z 65) (Z 61) i t + if Z 64 t = 1 ∧ 8 * (Z 65 t).toNatClampNeg + (Z 61 t).toNatClampNeg = i then 1 else 0) = _
      rw [if_neg (fun hc => h hc.1), Nat.add_zero]
    · rw [if_neg e2, if_neg e2]
theorem gZt_s {Z : Nat → Nat → Int32} {T t s k : Nat} (h : Z 64 t = 1) (hs : s < 5) (hk : k < 8) (es : Z 65 t = nI s) (ek : Z 61 t = nI k) : gZt Z T (t + 1) = if ¬ nI (T + 1) - Z 66 t < 5 then upd2 (upd2 (gZt Z T t) 70 (8 * s + k) (gZt Z T t 70 (8 * s + k) + 1)) 64 t 3 else upd2 (gZt Z T t) 70 (8 * s + k) (gZt Z T t 70 (8 * s + k) + 1) := by
  have esn : (Z 65 t).toNatClampNeg = s := by rw [es]; exact nI_clamp (by omega)
  have ekn : (Z 61 t).toNatClampNeg = k := by rw [ek]; exact nI_clamp (by omega)
  have h70 : ∀ i, gZt Z T (t + 1) 70 i = upd2 (gZt Z T t) 70 (8 * s + k) (gZt Z T t 70 (8 * s + k) + 1) 70 i := by
    intro i
    rw [upd2_at]
    show Z 70 i + nI (glc (Z 64) (Z 65) (Z 61) i t + if Z 64 t = 1 ∧ 8 * (Z 65 t).toNatClampNeg + (Z 61 t).toNatClampNeg = i then 1 else 0) = _
    by_cases e : i = 8 * s + k
    · subst e
      rw [if_pos ⟨h, by rw [esn, ekn]⟩, if_pos rfl]
      show _ = Z 70 _ + nI (glc (Z 64) (Z 65) (Z 61) _ t) + 1
      rw [Int32.add_assoc, nI_1]
    · rw [if_neg (fun hc => e (by rw [← hc.2, esn, ekn])), if_neg e, Nat.add_zero]; rfl
  have ho : ∀ j, j ≠ 64 → j ≠ 70 → gZt Z T (t + 1) j = Z j := fun j h1 h2 => gZt_o h1 h2
  by_cases h5 : ¬ nI (T + 1) - Z 66 t < 5
  · rw [if_pos h5]
    funext j
    by_cases e : j = 64
    · subst e
      rw [gu_row, upd2_row _ _ _ _ (by decide)]
      exact (grag_s (X := gXo Z) (N := 0) h h5).symm
    · rw [upd2_row _ _ _ _ e]
      by_cases e2 : j = 70
      · subst e2; funext i; exact h70 i
      · rw [upd2_row _ _ _ _ e2, ho j e e2, gZt_o e e2]
  · rw [if_neg h5]
    funext j
    by_cases e : j = 64
    · subst e
      rw [upd2_row _ _ _ _ (by decide)]
      exact (grag_n (X := gXo Z) (fun hc => h5 hc.2)).symm
    · by_cases e2 : j = 70
      · subst e2; funext i; exact h70 i
      · rw [upd2_row _ _ _ _ e2, ho j e e2, gZt_o e e2]
theorem gZt_t {Z : Nat → Nat → Int32} {T t : Nat} : gZt Z T t 64 t = Z 64 t := grag_t
abbrev cXw (e : Nat) : List Nat := [34, 26 + 5 * e, 6, 9, 12, 15, 18]
theorem cXw_la {e s : Nat} (hs : s < 5) : 6 + 3 * s ∈ cXw e := by
  match s, hs with
  | 0, _ => simp
  | 1, _ => simp
  | 2, _ => simp
  | 3, _ => simp
  | 4, _ => simp
theorem cXw_n {e j : Nat} (h1 : j ≠ 34) (h2 : j ≠ 26 + 5 * e) (h3 : ∀ s, s < 5 → j ≠ 6 + 3 * s) : j ∉ cXw e := by
  have := h3 0 (by decide)
  have := h3 1 (by decide)
  have := h3 2 (by decide)
  have := h3 3 (by decide)
  have := h3 4 (by decide)
  simp only [cXw, List.mem_cons, List.not_mem_nil, or_false, not_or]
  omega
section GC4
variable {w a : Nat → Nat → Int32} {b : Nat → Nat → Int64} {r : Nat → Nat → Nat} {q : Nat → Nat → Option Nat} {y : gH} {n u : Nat} {d : Nat}
variable {D : Nat → Nat} {x : Nat → Nat → Int32} {z : Nat → Nat} {o : Nat → Nat} {N : Nat} {Z : Nat → Nat → Int32}
theorem c_endWeekOnShelf (hd : 1 ≤ d) {t s k e : Nat} (hTs : cTs q D N o) (ht : t < N) (hk8 : k < 8) (hs : s < 5) (h1 : Z 64 t = 1) (es : Z 65 t = nI s) (ek : Z 61 t = nI k) (hR : cRel w a x o N Z) :
    gE d 51 [.ref 0, .ref (o t)] (n, u, HP w a b r q (gY D x z y)) (fun v S' => v = none ∧ ∃ w' a' x', cRel w' a' x' o N (if ¬ w 0 16 - Z 66 t < 5 then upd2 (upd2 Z 70 (8 * s + k) (Z 70 (8 * s + k) + 1)) 64 t 3 else upd2 Z 70 (8 * s + k) (Z 70 (8 * s + k) + 1)) ∧ gag (cXw e) a a' ∧ cfw w w' ∧ cfx o N x x' ∧ S' = (n, u, HP w' a' b r q (gY D x' z y))) := by
  have hk : gMT[51]? = some gro_51 := rfl
  refine r_inQ hk [some (.ref 0), some (.ref (o t))] (Nat.le_of_ble_eq_true rfl) rfl ?_
  intro Q hQ
  have ho := (hTs.1 t ht).2
  have hR1 := cR_lain hR hs hk8
  have x5 : x (o t) 5 = nI s := (hR.1 5 (by decide) t).trans es
  have x1 : x (o t) 1 = nI k := (hR.1 1 (by decide) t).trans ek
  have x6 : x (o t) 6 = Z 66 t := hR.1 6 (by decide) t
  iterate 3 refine r_step hk rfl rfl rfl ?_
  refine r_getT hk rfl ho rfl ?_
  refine r_qa hk (s) (4 + 3 * s) rfl rfl x5 hs rfl (gshops_at hs) ?_
  refine r_getSA hk rfl hs rfl ?_
  refine r_step hk rfl rfl rfl ?_
  refine r_getT hk rfl ho rfl ?_
  refine r_step hk rfl rfl rfl ?_
  refine r_ia hk k rfl (HP_la hs) x1 hk8 rfl ?_
  iterate 2 refine r_step hk rfl rfl rfl ?_
  refine r_is hk k rfl (HP_la hs) (HP_la hs).symm x1 hk8 rfl (Nat.ble_eq.mpr (by omega)) ?_
  iterate 3 refine r_step hk rfl rfl rfl ?_
  refine r_getT hk rfl ho rfl ?_
  iterate 3 refine r_step hk rfl rfl rfl ?_
  refine r_lt (fun h31 => ?_) (fun h31 => ?_)
  · refine r_ret hk rfl rfl ?_
    first | exact hQ _ _ ⟨rfl, _, _, _, by rw [if_pos (by rw [← x6]; exact h31)]; exact cR_leave hR1 hTs ht hs (by rw [upd2_row _ _ _ _ (by decide)]; exact h1) (by rw [upd2_row _ _ _ _ (by decide)]; exact es) (by decide) (by decide), gag_up gag_rf (cXw_la hs), cfw_up cfw_rf hs _ _, cfx_up cfx_rf ht (by decide) _, rfl⟩ | exact hQ _ _ ⟨rfl, w, _, x, by rw [if_neg (fun hc => hc (by rw [← x6]; exact h31))]; exact hR1, gag_up gag_rf (cXw_la hs), cfw_rf, cfx_rf, rfl⟩
  · iterate 3 refine r_step hk rfl rfl rfl ?_
    refine r_callV hk [.ref 0, .ref (o t), .int 3] [] rfl rfl rfl rfl rfl rfl rfl (by omega) (c_leaveShelf ho hs x5 3) ?_
    rintro _ _ ⟨rfl, rfl⟩
    refine r_ret hk rfl rfl ?_
    first | exact hQ _ _ ⟨rfl, _, _, _, by rw [if_pos (by rw [← x6]; exact h31)]; exact cR_leave hR1 hTs ht hs (by rw [upd2_row _ _ _ _ (by decide)]; exact h1) (by rw [upd2_row _ _ _ _ (by decide)]; exact es) (by decide) (by decide), gag_up gag_rf (cXw_la hs), cfw_up cfw_rf hs _ _, cfx_up cfx_rf ht (by decide) _, rfl⟩ | exact hQ _ _ ⟨rfl, w, _, x, by rw [if_neg (fun hc => hc (by rw [← x6]; exact h31))]; exact hR1, gag_up gag_rf (cXw_la hs), cfw_rf, cfx_rf, rfl⟩
theorem c_endWeek (hd : 2 ≤ d) {T e : Nat} (hN : w 0 1 = nI N) (hN1 : N ≤ 100) (hT : w 0 16 = nI T) (hT1 : T < 1000) (hTs : cTs q D N o) (hkd : ∀ t, t < N → gin (Z 61 t) 8) (hsh : ∀ t, t < N → gin (Z 65 t) 5) (hR : cRel w a x o N Z) :
    gE d 50 [.ref 0] (n, u, HP w a b r q (gY D x z y)) (fun v S' => v = none ∧ ∃ w' a' x', cRel w' a' x' o N (gZt Z T N) ∧ gag (cXw e) a a' ∧ cfw (upd2 w 0 16 (nI (T + 1))) w' ∧ cfx o N x x' ∧ S' = (n, u, HP w' a' b r q (gY D x' z y))) := by
  have hk : gMT[50]? = some gro_50 := rfl
  refine r_inQ hk [some (.ref 0), none] (Nat.le_of_ble_eq_true rfl) rfl ?_
  intro Q hQ
  have e1 : w 0 16 + 1 = nI (T + 1) := by rw [hT]; exact nI_1 T
  have hsn : ∀ s, s < 5 → (0 : Nat) ≠ 4 + 3 * s := fun s _ => by omega
  have loop : ∀ t, t ≤ N → ∀ (w1 a1 x1 : Nat → Nat → Int32) (v : Int32), v = nI t → cRel w1 a1 x1 o N (gZt Z T t) → gag (cXw e) a a1 → cfw (upd2 w 0 16 (nI (T + 1))) w1 → cfx o N x x1 → gX d 50 12 [some (.ref 0), some (.int v)] [] (n, u, HP w1 a1 b r q (gY D x1 z y)) Q := by
    refine g_down ?_ ?_
    · intro w1 a1 x1 v hv hR1 hag hfw hfx
      have h01 : w1 0 1 = nI N := by rw [hfw 0 hsn]; exact hN
      iterate 4 refine r_step hk rfl rfl rfl ?_
      refine r_ge (fun _ => ?_) (fun hq9 => absurd (show w1 0 1 ≤ v by rw [hv, h01]; exact nI_le (Nat.le_refl _) (by omega)) hq9)
      refine r_ret hk rfl rfl ?_
      exact hQ _ _ ⟨rfl, w1, a1, x1, hR1, hag, hfw, hfx, rfl⟩
    · intro t ht ih w1 a1 x1 v hv hR1 hag hfw hfx
      have h01 : w1 0 1 = nI N := by rw [hfw 0 hsn]; exact hN
      have h16 : w1 0 16 = nI (T + 1) := by rw [hfw 0 hsn]; exact upd2_same _ _ _ _
      obtain ⟨k, hk8, ek⟩ := hkd t ht
      obtain ⟨s, hs5, es⟩ := hsh t ht
      have x4 : x1 (o t) 4 = Z 64 t := (hR1.1 4 (by decide) t).trans gZt_t
      iterate 4 refine r_step hk rfl rfl rfl ?_
      refine r_ge (fun hq9 => absurd hq9 (show ¬ w1 0 1 ≤ v by rw [hv, h01]; exact nI_ge ht (by omega))) (fun _ => ?_)
      iterate 3 refine r_step hk rfl rfl rfl ?_
      refine r_qa hk (t) (o t) rfl rfl hv (by omega) rfl (hTs.1 t ht).1 ?_
      refine r_getT hk rfl (hTs.1 t ht).2 rfl ?_
      iterate 2 refine r_step hk rfl rfl rfl ?_
      refine r_ne (fun h30 => ?_) (fun h30 => ?_)
      · iterate 2 refine r_step hk rfl rfl rfl ?_
        first | (refine ih w2 a2 x2 _ (nI_s hv) ?_ (gag_tr hag hag2) (cfw_tr hfw hfw2) (cfx_tr hfx hfx2); rw [gZt_s z1 hs5 hk8 es ek]; rw [h16, show gZt Z T t 66 t = Z 66 t from congrFun (gZt_o (by decide) (by decide)) t] at hR2; exact hR2) | exact ih w1 a1 x1 _ (nI_s hv) (by rw [gZt_n (fun hc => h30 (x4.trans hc))]; exact hR1) hag hfw hfx
      · iterate 4 refine r_step hk rfl rfl rfl ?_
        refine r_qa hk (t) (o t) rfl rfl hv (by omega) rfl (hTs.1 t ht).1 ?_
        have z1 := x4.symm.trans h30
        refine r_callV hk [.ref 0, .ref (o t)] [] rfl rfl rfl rfl rfl rfl rfl (by omega) (c_endWeekOnShelf (e := e) (k := k) (s := s) (Z := gZt Z T t) (by omega) hTs ht hk8 hs5 (gZt_t.trans z1) ((congrFun (gZt_o (by decide) (by decide)) t).trans es) ((congrFun (gZt_o (by decide) (by decide)) t).trans ek) hR1) ?_
        rintro _ _ ⟨rfl, w2, a2, x2, hR2, hag2, hfw2, hfx2, rfl⟩
        iterate 2 refine r_step hk rfl rfl rfl ?_
        first | (refine ih w2 a2 x2 _ (nI_s hv) ?_ (gag_tr hag hag2) (cfw_tr hfw hfw2) (cfx_tr hfx hfx2); rw [gZt_s z1 hs5 hk8 es ek]; rw [h16, show gZt Z T t 66 t = Z 66 t from congrFun (gZt_o (by decide) (by decide)) t] at hR2; exact hR2) | exact ih w1 a1 x1 _ (nI_s hv) (by rw [gZt_n (fun hc => h30 (x4.trans hc))]; exact hR1) hag hfw hfx
  iterate 5 refine r_step hk rfl rfl rfl ?_
  refine r_putI hk rfl rfl rfl rfl ?_
  iterate 2 refine r_step hk rfl rfl rfl ?_
  rw [e1]
  exact loop 0 (Nat.zero_le _) _ a x _ rfl (by rw [gZt_0]; exact cRel_w (fun s hs => upd2_row _ _ _ _ (by omega)) hR) gag_rf cfw_rf cfx_rf
theorem c_beginSeason (hd : 5 ≤ d) {T e : Nat} (hN : w 0 1 = nI N) (hN1 : N ≤ 100) (hT : w 0 16 = nI T) (hT1 : T < 1000) (hTs : cTs q D N o) (hkd : ∀ t, t < N → gin (Z 61 t) 8) (he : e < 2) (hr : r 0 8 = 22 + 5 * e) {ls : kLs} (hls : cTx w a e ls) (hR : cRel w a x o N Z) :
    gE d 53 [.ref 0] (n, u, HP w a b r q (gY D x z y)) (fun v S' => v = none ∧ ∃ w' a' x' Z', cRel w' a' x' o N Z' ∧ gag [64, 65, 66] Z Z' ∧ gXo Z' = gsea N (Z 69) (nI T) (fun t => gway (gfa Z T t (Z 61 t).toNatClampNeg) ls) (Z 63) (nI (T / 13 % 4)) N (gXo Z) ∧ gag (cXs e) a a' ∧ cfw w w' ∧ cfx o N x x' ∧ S' = (n, u, HP w' a' b r q (gY D x' z y))) := by
  have hk : gMT[53]? = some gro_53 := rfl
  refine r_inQ hk [some (.ref 0), none, none, none] (Nat.le_of_ble_eq_true rfl) rfl ?_
  intro Q hQ
  have hsn : ∀ s, s < 5 → (0 : Nat) ≠ 4 + 3 * s := fun s _ => by omega
  have loop : ∀ t, t ≤ N → ∀ (w1 a1 x1 Z1 : Nat → Nat → Int32) (v : Int32) (l3 : Option Value), v = nI t → cRel w1 a1 x1 o N Z1 → gag [64, 65, 66] Z Z1 → gXo Z1 = gsea N (Z 69) (nI T) (fun t => gway (gfa Z T t (Z 61 t).toNatClampNeg) ls) (Z 63) (nI (T / 13 % 4)) t (gXo Z) → gag (cXs e) a a1 → cfw w w1 → cfx o N x x1 → gX d 53 7 [some (.ref 0), some (.int (nI (T / 13 % 4))), some (.int v), l3] [] (n, u, HP w1 a1 b r q (gY D x1 z y)) Q := by
    refine g_down ?_ ?_
    · intro w1 a1 x1 Z1 v l3 hv hR1 hg hX hag hfw hfx
      have h01 : w1 0 1 = nI N := by rw [hfw 0 hsn]; exact hN
      iterate 4 refine r_step hk rfl rfl rfl ?_
      refine r_ge (fun _ => ?_) (fun hq9 => absurd (show w1 0 1 ≤ v by rw [hv, h01]; exact nI_le (Nat.le_refl _) (by omega)) hq9)
      refine r_ret hk rfl rfl ?_
      exact hQ _ _ ⟨rfl, w1, a1, x1, Z1, hR1, hg, hX, hag, hfw, hfx, rfl⟩
    · intro t ht ih w1 a1 x1 Z1 v l3 hv hR1 hg hX hag hfw hfx
      have h01 : w1 0 1 = nI N := by rw [hfw 0 hsn]; exact hN
      have h16 : w1 0 16 = nI T := by rw [hfw 0 hsn]; exact hT
      obtain ⟨k, hk8, ek⟩ := hkd t ht
      have ekn : (Z 61 t).toNatClampNeg = k := by rw [ek]; exact nI_clamp (by omega)
      have x4 : x1 (o t) 4 = Z1 64 t := hR1.1 4 (by decide) t
      have x3 : x1 (o t) 3 = Z 63 t := (hR1.1 3 (by decide) t).trans (by rw [hg 63 (by decide)])
      have hX1 : Z1 64 t = (gsea N (Z 69) (nI T) (fun t => gway (gfa Z T t (Z 61 t).toNatClampNeg) ls) (Z 63) (nI (T / 13 % 4)) t (gXo Z)).1 t := by rw [← hX]
      have stay : ¬ (Z1 64 t = 2 ∧ (Z 63 t = 4 ∨ Z 63 t = nI (T / 13 % 4))) → gX d 53 7 [some (.ref 0), some (.int (nI (T / 13 % 4))), some (.int (v + 1)), some (.ref (o t))] [] (n, u, HP w1 a1 b r q (gY D x1 z y)) Q := by
        intro hno
        refine ih w1 a1 x1 Z1 _ _ (nI_s hv) hR1 hg ?_ hag hfw hfx
        rw [hX]
        conv => rhs; unfold gsea
        rw [if_neg (by rw [← hX1]; exact hno)]
      have srt : Z1 64 t = 2 → (Z 63 t = 4 ∨ Z 63 t = nI (T / 13 % 4)) → gX d 53 46 [some (.ref 0), some (.int (nI (T / 13 % 4))), some (.int v), some (.ref (o t))] [] (n, u, HP w1 a1 b r q (gY D x1 z y)) Q := by
        intro h2 h4
        have fin : ∀ s, s < 5 → s = gfst N (Z 69) (gXo Z1) → gX d 53 52 [some (.ref 0), some (.int (nI (T / 13 % 4))), some (.int v), some (.ref (o t))] [.int (nI s), .ref (o t), .ref 0] (n, u, HP w1 a1 b r q (gY D x1 z y)) Q := by
          intro s hs hsf
          refine r_callV hk [.ref 0, .ref (o t), .int (nI s)] [] rfl rfl rfl rfl rfl rfl rfl (by omega) (c_sortFor (T := T) (k := k) (e := e) (ls := ls) (by omega) h16 hT1 hTs ht hk8 (by rw [hg 61 (by decide)]; exact ek) he hr hs (by rw [h2]; decide) (by rw [h2]; decide) (cTx_ag' hag hfw he hls) hR1) ?_
          rintro _ _ ⟨rfl, w2, a2, x2, Z2, hR2, hg2, hX2, hag2, hfw2, hfx2, rfl⟩
          iterate 2 refine r_step hk rfl rfl rfl ?_
          refine ih w2 a2 x2 Z2 _ _ (nI_s hv) hR2 (gag_tr hg hg2) ?_ (gag_tr hag hag2) (cfw_tr hfw hfw2) (cfx_tr hfx hfx2)
          rw [hX2, hg 69 (by decide), gfa_ag hg (by decide), hsf]
          conv => rhs; unfold gsea
          rw [if_pos (by rw [← hX1]; exact ⟨h2, h4⟩), ← hX, ekn]
        have hrm : ∀ s, s < 5 → (w1 (4 + 3 * s) 1 < w1 (4 + 3 * s) 0 ↔ gRoom N (Z 69) (gXo Z1) s) := fun s hs => by rw [← hg 69 (by decide)]; exact cRoom hR1 hs
        iterate 3 refine r_step hk rfl rfl rfl ?_
        refine r_callV hk [.ref 0] [.ref (o t), .ref 0] rfl rfl rfl rfl rfl rfl rfl (by omega) (c_firstShopWithRoom (by omega)) ?_
        rintro _ _ ⟨rfl, ⟨s, hs, rfl, hr1, ha⟩ | ⟨ha, rfl⟩⟩
        · exact fin s hs (gfst_of hs ((hrm s hs).mp hr1) (fun s' h' => mt (hrm s' (by omega)).mpr (ha s' h')))
        · exact fin 0 (by decide) (gfst_no (fun s' h' => mt (hrm s' h').mpr (ha s' h')))
      iterate 4 refine r_step hk rfl rfl rfl ?_
      refine r_ge (fun hq9 => absurd hq9 (show ¬ w1 0 1 ≤ v by rw [hv, h01]; exact nI_ge ht (by omega))) (fun _ => ?_)
      iterate 3 refine r_step hk rfl rfl rfl ?_
      refine r_qa hk (t) (o t) rfl rfl hv (by omega) rfl (hTs.1 t ht).1 ?_
      iterate 2 refine r_step hk rfl rfl rfl ?_
      refine r_getT hk rfl (hTs.1 t ht).2 rfl ?_
      iterate 2 refine r_step hk rfl rfl rfl ?_
      refine r_ne (fun h27 => ?_) (fun h27 => ?_)
      · iterate 2 refine r_step hk rfl rfl rfl ?_
        first | exact stay (fun hc => h27 (x4.trans hc.1)) | exact stay (fun hc => hc.2.elim (fun h => h43 (x3.trans h)) (fun h => h35 (x3.trans h)))
      · refine r_step hk rfl rfl rfl ?_
        refine r_getT hk rfl (hTs.1 t ht).2 rfl ?_
        iterate 2 refine r_step hk rfl rfl rfl ?_
        refine r_eq (fun h35 => ?_) (fun h35 => ?_)
        · first | exact srt (x4.symm.trans h27) (Or.inr (x3.symm.trans h35)) | exact srt (x4.symm.trans h27) (Or.inl (x3.symm.trans h43))
        · refine r_step hk rfl rfl rfl ?_
          refine r_getT hk rfl (hTs.1 t ht).2 rfl ?_
          iterate 2 refine r_step hk rfl rfl rfl ?_
          refine r_ne (fun h43 => ?_) (fun h43 => ?_)
          · iterate 2 refine r_step hk rfl rfl rfl ?_
            first | exact stay (fun hc => h27 (x4.trans hc.1)) | exact stay (fun hc => hc.2.elim (fun h => h43 (x3.trans h)) (fun h => h35 (x3.trans h)))
          · first | exact srt (x4.symm.trans h27) (Or.inr (x3.symm.trans h35)) | exact srt (x4.symm.trans h27) (Or.inl (x3.symm.trans h43))
  refine r_step hk rfl rfl rfl ?_
  refine r_callV hk [.ref 0] [] rfl rfl rfl rfl rfl rfl rfl (by omega) (c_seasonNow hT hT1) ?_
  rintro _ _ ⟨rfl, rfl⟩
  iterate 3 refine r_step hk rfl rfl rfl ?_
  exact loop 0 (Nat.zero_le _) w a x Z _ _ rfl hR gag_rf rfl gag_rf cfw_rf cfx_rf
/-- the rows of a week, from what the class's two methods leave -/
theorem gwkZ_c {ls : kLs} {T : Nat} {rate : Int32} {Z1 : Nat → Nat → Int32} (hg : gag [64, 65, 66] (gZt Z T N) Z1) (hX : gXo Z1 = if (T + 1) % 13 = 0 then gsea N (gZt Z T N 69) (nI (T + 1)) (fun t => gway (gfa (gZt Z T N) (T + 1) t (gZt Z T N 61 t).toNatClampNeg) ls) (gZt Z T N 63) (nI ((T + 1) / 13 % 4)) N (gXo (gZt Z T N)) else gXo (gZt Z T N)) : ∀ j, 60 ≤ j → j ≤ 70 → gwkZ ls N T rate Z j = Z1 j := by
  have hX2 : gXo Z1 = gwkX ls N T Z := by
    rw [hX]
    unfold gwkX
    have e1 : gXo (gZt Z T N) = grag N (nI (T + 1)) (gXo Z) := rfl
    have e2 : ∀ t k, gfa (gZt Z T N) (T + 1) t k = gfa Z (T + 1) t k := fun t k => by
      unfold gfa
      rw [gZt_o (by decide) (by decide), gZt_o (by decide) (by decide), gZt_o (by decide) (by decide), gZt_o (by decide) (by decide), gZt_o (by decide) (by decide)]
    rw [e1]
    simp only [e2]
    rw [gZt_o (by decide) (by decide), gZt_o (by decide) (by decide), gZt_o (by decide) (by decide)]
  intro j h1 h2
  unfold gwkZ
  by_cases e : j = 64
  · subst e; rw [if_pos rfl, ← hX2]
  rw [if_neg e]
  by_cases e1 : j = 65
  · subst e1; rw [if_pos rfl, ← hX2]
  rw [if_neg e1]
  by_cases e2 : j = 66
  · subst e2; rw [if_pos rfl, ← hX2]
  rw [if_neg e2, hg j (by simp only [List.mem_cons, List.not_mem_nil, or_false, not_or]; exact ⟨e, e1, e2⟩)]
  by_cases e3 : j = 70
  · subst e3; rw [if_pos rfl]; rfl
  · rw [if_neg e3, if_neg (by omega), gZt_o e e3]
theorem gwkZ_61 {ls : kLs} {T : Nat} {rate : Int32} : gwkZ ls N T rate Z 61 = Z 61 := gwkZ_o (by decide)
theorem gwks_cg {ls : kLs} {N : Nat} {rate : Int32} : ∀ (k T : Nat) {Z : Nat → Nat → Int32}, gwks ls N rate k T Z 61 = Z 61 := by
  intro k
  induction k with
  | zero => intro T Z; rfl
  | succ k ih => intro T Z; exact (ih (T + 1)).trans gwkZ_61
theorem c_weeks (hd : 6 ≤ d) {T e : Nat} {rate : Int32} (hN : w 0 1 = nI N) (hN1 : N ≤ 100) (hT : w 0 16 = nI T) (hT1 : T ≤ 519) (hTs : cTs q D N o) (hkd : ∀ t, t < N → gin (Z 61 t) 8) (hsh : ∀ t, t < N → gin (Z 65 t) 5) (he : e < 2) (hr : r 0 8 = 22 + 5 * e) {ls : kLs} (hls : cTx w a e ls) (hR : cRel w a x o N Z) (v1 : Int32) :
    gE d 49 [.ref 0, .int v1] (n, u, HP w a b r q (gY D x z y)) (fun v S' => (∃ k w' a' x', k < 61 ∧ T + k ≤ 519 ∧ v1 = nI k ∧ cRel w' a' x' o N (gwks ls N rate k T Z) ∧ gag (cXw e) a a' ∧ cfw (upd2 w 0 16 (nI (T + k))) w' ∧ cfx o N x x' ∧ v = some (.int (nI (T + k))) ∧ S' = (n, u, HP w' a' b r q (gY D x' z y)))
      ∨ ((¬ ∃ k, k < 61 ∧ T + k ≤ 519 ∧ v1 = nI k) ∧ v = some (.int (-1)) ∧ S' = (n, u, HP w a b r q (gY D x z y)))) := by
  have hk : gMT[49]? = some gro_49 := rfl
  refine r_inQ hk [some (.ref 0), some (.int v1), none] (Nat.le_of_ble_eq_true rfl) rfl ?_
  intro Q hQ
  have hsn : ∀ s, s < 5 → (0 : Nat) ≠ 4 + 3 * s := fun s _ => by omega
  have loop : ∀ (k : Nat), k < 61 → T + k ≤ 519 → v1 = nI k → ∀ i, i ≤ k → ∀ (w1 a1 x1 Z1 : Nat → Nat → Int32) (v : Int32), v = nI i → cRel w1 a1 x1 o N Z1 → gwks ls N rate (k - i) (T + i) Z1 = gwks ls N rate k T Z → Z1 61 = Z 61 → (∀ t, t < N → gin (Z1 65 t) 5) → gag (cXw e) a a1 → cfw (upd2 w 0 16 (nI (T + i))) w1 → cfx o N x x1 →
      gX d 49 25 [some (.ref 0), some (.int (nI k)), some (.int v)] [] (n, u, HP w1 a1 b r q (gY D x1 z y)) Q := by
    intro k hk61 hTk hv1
    refine g_down ?_ ?_
    · intro w1 a1 x1 Z1 v hv hR1 hg h61 h65 hag hfw hfx
      have h16 : w1 0 16 = nI (T + k) := by rw [hfw 0 hsn]; exact upd2_same _ _ _ _
      subst hv
      iterate 3 refine r_step hk rfl rfl rfl ?_
      refine r_ge (fun _ => ?_) (fun hq9 => absurd (nI_le (Nat.le_refl _) (by omega)) hq9)
      iterate 2 refine r_step hk rfl rfl rfl ?_
      refine r_iret hk rfl trivial ?_
      exact hQ _ _ (Or.inl ⟨k, w1, a1, x1, hk61, hTk, hv1, by rw [← hg, Nat.sub_self]; exact hR1, hag, hfw, hfx, congrArg (fun z => some (Value.int z)) h16, rfl⟩)
    · intro i hi ih w1 a1 x1 Z1 v hv hR1 hg h61 h65 hag hfw hfx
      have h01 : w1 0 1 = nI N := by rw [hfw 0 hsn]; exact hN
      have h16 : w1 0 16 = nI (T + i) := by rw [hfw 0 hsn]; exact upd2_same _ _ _ _
      subst hv
      have hfin : ∀ (w3 a3 x3 Z3 : Nat → Nat → Int32), cRel w3 a3 x3 o N Z3 → gag [64, 65, 66] (gZt Z1 (T + i) N) Z3 → (gXo Z3 = if (T + i + 1) % 13 = 0 then gsea N (gZt Z1 (T + i) N 69) (nI (T + i + 1)) (fun t => gway (gfa (gZt Z1 (T + i) N) (T + i + 1) t (gZt Z1 (T + i) N 61 t).toNatClampNeg) ls) (gZt Z1 (T + i) N 63) (nI ((T + i + 1) / 13 % 4)) N (gXo (gZt Z1 (T + i) N)) else gXo (gZt Z1 (T + i) N)) → gag (cXw e) a a3 → cfw (upd2 w 0 16 (nI (T + (i + 1)))) w3 → cfx o N x x3 → gX d 49 48 [some (.ref 0), some (.int (nI k)), some (.int (nI i))] [] (n, u, HP w3 a3 b r q (gY D x3 z y)) Q := by
        intro w3 a3 x3 Z3 hR3 hg3 hX3 hag3 hfw3 hfx3
        iterate 2 refine r_step hk rfl rfl rfl ?_
        refine ih w3 a3 x3 (gwkZ ls N (T + i) rate Z1) _ (nI_1 i) (cRel_cg (gwkZ_c hg3 hX3) hR3) ?_ (gwkZ_61.trans h61) (fun t ht => ?_) hag3 hfw3 hfx3
        (rw [← hg, show k - i = (k - (i + 1)) + 1 by omega]; rfl)
        exact gwkX_sh N h65 t ht
      have hcf : ∀ w2 : Nat → Nat → Int32, cfw (upd2 w1 0 16 (nI (T + i + 1))) w2 → cfw (upd2 w 0 16 (nI (T + (i + 1)))) w2 := by
        intro w2 hf j hj
        rw [hf j hj]
        by_cases e0 : j = 0
        · subst e0
          funext sl
          rw [upd2_at, upd2_at]
          by_cases e2 : sl = 16
          · rw [if_pos e2, if_pos e2, Nat.add_assoc]
          · rw [if_neg e2, if_neg e2, hfw 0 hsn, upd2_at, if_neg e2]
        · rw [upd2_row _ _ _ _ e0, upd2_row _ _ _ _ e0, hfw j hj, upd2_row _ _ _ _ e0]
      iterate 2 refine r_step hk rfl rfl rfl ?_
      refine r_step hk rfl rfl rfl ?_
      refine r_ge (fun hq9 => absurd hq9 (nI_ge hi (by omega))) (fun _ => ?_)
      refine r_step hk rfl rfl rfl ?_
      refine r_callV hk [.ref 0] [] rfl rfl rfl rfl rfl rfl rfl (by omega) (c_endWeek (T := T + i) (e := e) (by omega) h01 hN1 h16 (by omega) hTs (by rw [h61]; exact hkd) h65 hR1) ?_
      rintro _ _ ⟨rfl, w2, a2, x2, hR2, hag2, hfw2, hfx2, rfl⟩
      have h162 : w2 0 16 = nI (T + i + 1) := by rw [hfw2 0 hsn]; exact upd2_same _ _ _ _
      have h012 : w2 0 1 = nI N := by rw [hfw2 0 hsn]; exact h01
      have hre : w2 0 16 - w2 0 16 / 13 * 13 = nI ((T + i + 1) % 13) := by rw [h162]; exact pk_rem (d := 13) (by omega) (by decide) (by decide)
      by_cases h13 : (T + i + 1) % 13 = 0
      · have hls2 : cTx w2 a2 e ls := by
          have hagc := gag_tr hag hag2
          have := cTx_ag (w := w) hagc (cXw_n (by omega) (by omega) (fun s _ => by omega)) (cXw_n (by omega) (by omega) (fun s _ => by omega)) (cXw_n (by omega) (by omega) (fun s _ => by omega)) hls
          refine ⟨?_, this.2⟩
          rw [hfw2 (22 + 5 * e) (fun s hs => by omega), upd2_row _ _ _ _ (by omega), hfw (22 + 5 * e) (fun s hs => by omega), upd2_row _ _ _ _ (by omega)]
          exact this.1
        iterate 3 refine r_step hk rfl rfl rfl ?_
        refine r_rem hk rfl (by decide) ?_
        refine r_step hk rfl rfl rfl ?_
        refine r_ne (fun hq9 => absurd (show w2 0 16 - w2 0 16 / 13 * 13 = 0 by rw [hre, h13]; rfl) hq9) (fun _ => ?_)
        refine r_step hk rfl rfl rfl ?_
        refine r_callV hk [.ref 0] [] rfl rfl rfl rfl rfl rfl rfl (by omega) (c_beginSeason (T := T + i + 1) (e := e) (ls := ls) (by omega) h012 hN1 h162 (by omega) hTs (by rw [gZt_o (by decide) (by decide), h61]; exact hkd) he hr hls2 hR2) ?_
        rintro _ _ ⟨rfl, w3, a3, x3, Z3, hR3, hg3, hX3, hag3, hfw3, hfx3, rfl⟩
        exact hfin w3 a3 x3 Z3 hR3 hg3 (by rw [if_pos h13]; exact hX3) (gag_tr (gag_tr hag hag2) (gag_sub hag3 (by simp))) (hcf w3 (cfw_tr hfw2 hfw3)) (cfx_tr (cfx_tr hfx hfx2) hfx3)
      · skip
        iterate 3 refine r_step hk rfl rfl rfl ?_
        refine r_rem hk rfl (by decide) ?_
        refine r_step hk rfl rfl rfl ?_
        refine r_ne (fun _ => ?_) (fun hq9 => absurd hq9 (show ¬ w2 0 16 - w2 0 16 / 13 * 13 = 0 by rw [hre]; exact nI_ne0 (by omega) (by omega)))
        exact hfin w2 a2 x2 _ hR2 gag_rf (by rw [if_neg h13]) (gag_tr hag hag2) (hcf w2 hfw2) (cfx_tr hfx hfx2)
  have hsum : ∀ k, k < 61 → w 0 16 + nI k = nI (T + k) := fun k _ => by rw [hT, nI_add]
  iterate 2 refine r_step hk rfl rfl rfl ?_
  refine r_callS hk [.int v1, .int 61] [] rfl rfl rfl rfl rfl (by omega) (c_within _ _ v1 61 (by decide)) ?_
  rintro _ _ ⟨⟨⟨k, hk61, rfl⟩, rfl⟩ | ⟨hs, rfl⟩, rfl⟩
  · refine r_step hk rfl rfl rfl ?_
    refine r_eq (fun hq9 => absurd hq9 (by decide)) (fun _ => ?_)
    iterate 6 refine r_step hk rfl rfl rfl ?_
    refine r_le (fun h18 => ?_) (fun h18 => ?_)
    · iterate 2 refine r_step hk rfl rfl rfl ?_
      have hle : T + k ≤ 519 := (nI_leI (by omega) (by omega)).mp (show nI (T + k) ≤ nI 519 by rw [← hsum k hk61]; exact h18)
      have hlp := loop k hk61 hle rfl 0 (Nat.zero_le _) w a x Z _ rfl hR rfl rfl hsh gag_rf (by rw [Nat.add_zero, upd2_id hT]; exact cfw_rf) cfx_rf
      exact hlp
    · refine r_step hk rfl rfl rfl ?_
      refine r_iret hk rfl trivial ?_
      first | exact hQ _ _ (Or.inr ⟨fun ⟨k2, h1, h2, e⟩ => h18 (by show w 0 16 + nI k ≤ 519; rw [e, hsum k2 h1]; exact nI_le h2 (by decide)), rfl, rfl⟩) | exact hQ _ _ (Or.inr ⟨fun ⟨k, h1, h2, e⟩ => hs ⟨k, h1, e⟩, rfl, rfl⟩)
  · refine r_step hk rfl rfl rfl ?_
    refine r_eq (fun _ => ?_) (fun hq9 => absurd (by decide) hq9)
    refine r_step hk rfl rfl rfl ?_
    refine r_iret hk rfl trivial ?_
    first | exact hQ _ _ (Or.inr ⟨fun ⟨k2, h1, h2, e⟩ => h18 (by show w 0 16 + nI k ≤ 519; rw [e, hsum k2 h1]; exact nI_le h2 (by decide)), rfl, rfl⟩) | exact hQ _ _ (Or.inr ⟨fun ⟨k, h1, h2, e⟩ => hs ⟨k, h1, e⟩, rfl, rfl⟩)
end GC4
