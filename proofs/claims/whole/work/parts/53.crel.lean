-- deps: 37 38 39 50 51 52
/-! ===== the class's things beside the reference's rows ===== -/
/-- the class's cells say what the rows Z say of the things -/
def cRel (w a x : Nat → Nat → Int32) (o : Nat → Nat) (N : Nat) (Z : Nat → Nat → Int32) : Prop :=
  (∀ i, i < 8 → ∀ t, x (o t) i = Z (60 + i) t) ∧ a 19 = Z 68 ∧ (∀ s, s < 5 → w (4 + 3 * s) 0 = Z 69 s) ∧ (∀ s k, s < 5 → k < 8 → a (6 + 3 * s) k = Z 70 (8 * s + k)) ∧ (∀ s, s < 5 → w (4 + 3 * s) 1 = nI (gcnt (gOn Z 1 (nI s)) N)) ∧ ∀ s, s < 5 → w (4 + 3 * s) 2 = nI (gcnt (gOn Z 6 (nI s)) N)
theorem on_same {Z Z' : Nat → Nat → Int32} {c σ : Int32} {t N : Nat} (h1 : ¬ Z 64 t = c) (h2 : ¬ Z' 64 t = c) (h3 : ∀ i, i ≠ t → Z' 64 i = Z 64 i ∧ Z' 65 i = Z 65 i) : gcnt (gOn Z' c σ) N = gcnt (gOn Z c σ) N := by
  refine gcnt_congr N (fun i _ => ?_)
  by_cases e : i = t
  · subst e; exact ⟨fun h => absurd h.1 h2, fun h => absurd h.1 h1⟩
  · show (Z' 64 i = c ∧ Z' 65 i = σ) ↔ (Z 64 i = c ∧ Z 65 i = σ)
    rw [(h3 i e).1, (h3 i e).2]
theorem on_in {Z Z' : Nat → Nat → Int32} {c σ σ0 : Int32} {t N : Nat} (ht : t < N) (h1 : ¬ Z 64 t = c) (h2 : Z' 64 t = c) (h4 : Z' 65 t = σ0) (h3 : ∀ i, i ≠ t → Z' 64 i = Z 64 i ∧ Z' 65 i = Z 65 i) : gcnt (gOn Z' c σ) N = gcnt (gOn Z c σ) N + if σ0 = σ then 1 else 0 := by
  by_cases e : σ0 = σ
  · rw [if_pos e]
    refine gcnt_ins (k := t) ⟨h2, h4.trans e⟩ (fun h => h1 h.1) N ht (fun i _ hi => ?_)
    show (Z' 64 i = c ∧ Z' 65 i = σ) ↔ (Z 64 i = c ∧ Z 65 i = σ)
    rw [(h3 i hi).1, (h3 i hi).2]
  · rw [if_neg e, Nat.add_zero]
    refine gcnt_congr N (fun i _ => ?_)
    by_cases e2 : i = t
    · subst e2; exact ⟨fun h => absurd (h4.symm.trans h.2) e, fun h => absurd h.1 h1⟩
    · show (Z' 64 i = c ∧ Z' 65 i = σ) ↔ (Z 64 i = c ∧ Z 65 i = σ)
      rw [(h3 i e2).1, (h3 i e2).2]
theorem cRel_cg {w a x : Nat → Nat → Int32} {o : Nat → Nat} {N : Nat} {Z Z' : Nat → Nat → Int32} (hz : ∀ j, 60 ≤ j → j ≤ 70 → Z' j = Z j) (h : cRel w a x o N Z) : cRel w a x o N Z' := by
  obtain ⟨h1, h2, h3, h4, h5, h6⟩ := h
  have e : ∀ c σ, gcnt (gOn Z' c σ) N = gcnt (gOn Z c σ) N := fun c σ => gcnt_congr N (fun i _ => by show (Z' 64 i = c ∧ Z' 65 i = σ) ↔ (Z 64 i = c ∧ Z 65 i = σ); rw [hz 64 (by omega) (by omega), hz 65 (by omega) (by omega)])
  refine ⟨fun i hi t => ?_, ?_, fun s hs => ?_, fun s k hs hk => ?_, fun s hs => ?_, fun s hs => ?_⟩
  · rw [hz (60 + i) (by omega) (by omega)]; exact h1 i hi t
  · rw [hz 68 (by omega) (by omega)]; exact h2
  · rw [hz 69 (by omega) (by omega)]; exact h3 s hs
  · rw [hz 70 (by omega) (by omega)]; exact h4 s k hs hk
  · rw [e]; exact h5 s hs
  · rw [e]; exact h6 s hs
theorem cRel_a {w a a' x : Nat → Nat → Int32} {o : Nat → Nat} {N : Nat} {Z : Nat → Nat → Int32} (h19 : a' 19 = a 19) (hl : ∀ s, s < 5 → a' (6 + 3 * s) = a (6 + 3 * s)) (h : cRel w a x o N Z) : cRel w a' x o N Z := by
  obtain ⟨h1, h2, h3, h4, h5, h6⟩ := h
  exact ⟨h1, h19.trans h2, h3, fun s k hs hk => by rw [hl s hs]; exact h4 s k hs hk, h5, h6⟩
theorem cRel_w {w w' a x : Nat → Nat → Int32} {o : Nat → Nat} {N : Nat} {Z : Nat → Nat → Int32} (hw : ∀ s, s < 5 → w' (4 + 3 * s) = w (4 + 3 * s)) (h : cRel w a x o N Z) : cRel w' a x o N Z := by
  obtain ⟨h1, h2, h3, h4, h5, h6⟩ := h
  exact ⟨h1, h2, fun s hs => by rw [hw s hs]; exact h3 s hs, h4, fun s hs => by rw [hw s hs]; exact h5 s hs, fun s hs => by rw [hw s hs]; exact h6 s hs⟩
theorem cRel_x {w a x x' : Nat → Nat → Int32} {o : Nat → Nat} {N : Nat} {Z : Nat → Nat → Int32} (hx : ∀ i, i < 8 → ∀ t, x' (o t) i = x (o t) i) (h : cRel w a x o N Z) : cRel w a x' o N Z := by
  obtain ⟨h1, h2⟩ := h
  exact ⟨fun i hi t => (hx i hi t).trans (h1 i hi t), h2⟩
theorem cR_mk {w w' a x x' : Nat → Nat → Int32} {q : Nat → Nat → Option Nat} {D : Nat → Nat} {o : Nat → Nat} {N t : Nat} {Z Z' : Nat → Nat → Int32} (h : cRel w a x o N Z) (hT : cTs q D N o) (ht : t < N) (hx : ∀ i, i ≠ o t → x' i = x i) (hz : ∀ j t', t' ≠ t → Z' j t' = Z j t') (hx2 : ∀ i, i < 8 → x' (o t) i = Z' (60 + i) t) (h68 : Z' 68 = Z 68) (h69 : Z' 69 = Z 69) (h70 : Z' 70 = Z 70) (hw0 : ∀ s, s < 5 → w' (4 + 3 * s) 0 = w (4 + 3 * s) 0) (hw1 : ∀ s, s < 5 → w' (4 + 3 * s) 1 = nI (gcnt (gOn Z' 1 (nI s)) N)) (hw2 : ∀ s, s < 5 → w' (4 + 3 * s) 2 = nI (gcnt (gOn Z' 6 (nI s)) N)) : cRel w' a x' o N Z' := by
  obtain ⟨h1, h2, h3, h4, h5, h6⟩ := h
  refine ⟨fun i hi t' => ?_, h2.trans h68.symm, fun s hs => ?_, fun s k hs hk => ?_, hw1, hw2⟩
  · by_cases e : t' = t
    · subst e; exact hx2 i hi
    · rw [hx _ (fun e2 => e (hT.2 t ht t' e2)), hz _ _ e]; exact h1 i hi t'
  · rw [hw0 s hs, h69]; exact h3 s hs
  · rw [h70]; exact h4 s k hs hk
theorem nI_ss {s s' : Nat} (hs : s < 5) (hs' : s' < 5) : (nI s = nI s') ↔ s = s' := nI_eq (by omega) (by omega)
theorem upd2_sh1 {w : Nat → Nat → Int32} {s s' sl sl' : Nat} {v : Int32} : upd2 w (4 + 3 * s) sl v (4 + 3 * s') sl' = if s' = s ∧ sl' = sl then v else w (4 + 3 * s') sl' := by
  by_cases e : s' = s
  · subst e
    rw [upd2_at]
    by_cases e2 : sl' = sl
    · rw [if_pos e2, if_pos ⟨rfl, e2⟩]
    · rw [if_neg e2, if_neg (fun h => e2 h.2)]
  · rw [upd2_row _ _ _ _ (by omega), if_neg (fun h => e h.1)]
section GCR
variable {w a x Z : Nat → Nat → Int32} {q : Nat → Nat → Option Nat} {D : Nat → Nat} {o : Nat → Nat} {N t s : Nat} {v : Int32}
theorem cR_come (h : cRel w a x o N Z) (hT : cTs q D N o) (ht : t < N) (hs : s < 5) (h1 : ¬ Z 64 t = 1) (h6 : ¬ Z 64 t = 6) : cRel (upd2 w (4 + 3 * s) 1 (w (4 + 3 * s) 1 + 1)) a (upd2 (upd2 (upd2 x (o t) 4 1) (o t) 5 (nI s)) (o t) 6 v) o N (upd2 (upd2 (upd2 Z 64 t 1) 65 t (nI s)) 66 t v) := by
  have h0 := h
  obtain ⟨g1, g2, g3, g4, g5, g6⟩ := h
  have hz3 : ∀ i, i ≠ t → upd2 (upd2 (upd2 Z 64 t 1) 65 t (nI s)) 66 t v 64 i = Z 64 i ∧ upd2 (upd2 (upd2 Z 64 t 1) 65 t (nI s)) 66 t v 65 i = Z 65 i := fun i hi => ⟨by simp [upd2, hi], by simp [upd2, hi]⟩
  refine cR_mk h0 hT ht (fun i hi => by simp [upd2, hi]) (fun j t' ht' => ?_) (fun i hi => ?_) (by simp [upd2]) (by simp [upd2]) (by simp [upd2]) (fun s' hs' => ?_) (fun s' hs' => ?_) (fun s' hs' => ?_)
  · simp only [upd2]; repeat' split
    all_goals simp_all
  · have := g1 i hi t
    match i, hi with
    | 0, _ => simpa [upd2] using this
    | 1, _ => simpa [upd2] using this
    | 2, _ => simpa [upd2] using this
    | 3, _ => simpa [upd2] using this
    | 4, _ => simp [upd2]
    | 5, _ => simp [upd2]
    | 6, _ => simp [upd2]
    | 7, _ => simpa [upd2] using this
  · rw [upd2_sh1, if_neg (by omega)]
  · rw [on_in (Z := Z) (σ0 := nI s) ht h1 (by simp [upd2]) (by simp [upd2]) hz3, upd2_sh1]
    by_cases e : s' = s
    · subst e; rw [if_pos ⟨rfl, rfl⟩, if_pos rfl, g5 s' hs', nI_1]
    · rw [if_neg (fun h => e h.1), if_neg (fun h => e ((nI_ss hs hs').mp h).symm), Nat.add_zero]; exact g5 s' hs'
  · rw [on_same (Z := Z) h6 (by simp [upd2]) hz3, upd2_sh1, if_neg (by omega)]; exact g6 s' hs'
theorem cR_set4 (h : cRel w a x o N Z) (hT : cTs q D N o) (ht : t < N) {w' : Nat → Nat → Int32} (hw0 : ∀ s, s < 5 → w' (4 + 3 * s) 0 = w (4 + 3 * s) 0) (hw1 : ∀ s, s < 5 → w' (4 + 3 * s) 1 = nI (gcnt (gOn (upd2 Z 64 t v) 1 (nI s)) N)) (hw2 : ∀ s, s < 5 → w' (4 + 3 * s) 2 = nI (gcnt (gOn (upd2 Z 64 t v) 6 (nI s)) N)) : cRel w' a (upd2 x (o t) 4 v) o N (upd2 Z 64 t v) := by
  refine cR_mk h hT ht (fun i hi => by simp [upd2, hi]) (fun j t' ht' => ?_) (fun i hi => ?_) (by simp [upd2]) (by simp [upd2]) (by simp [upd2]) hw0 hw1 hw2
  · simp only [upd2]; repeat' split
    all_goals simp_all
  · have := h.1 i hi t
    match i, hi with
    | 0, _ => simpa [upd2] using this
    | 1, _ => simpa [upd2] using this
    | 2, _ => simpa [upd2] using this
    | 3, _ => simpa [upd2] using this
    | 4, _ => simp [upd2]
    | 5, _ => simpa [upd2] using this
    | 6, _ => simpa [upd2] using this
    | 7, _ => simpa [upd2] using this
theorem upd64 : ∀ i, i ≠ t → upd2 Z 64 t v 64 i = Z 64 i ∧ upd2 Z 64 t v 65 i = Z 65 i := fun i hi => ⟨by simp [upd2, hi], by simp [upd2]⟩
theorem cR_leave (h : cRel w a x o N Z) (hT : cTs q D N o) (ht : t < N) (hs : s < 5) (h1 : Z 64 t = 1) (h5 : Z 65 t = nI s) (hv1 : ¬ v = 1) (hv6 : ¬ v = 6) : cRel (upd2 w (4 + 3 * s) 1 (w (4 + 3 * s) 1 - 1)) a (upd2 x (o t) 4 v) o N (upd2 Z 64 t v) := by
  refine cR_set4 h hT ht (fun s' hs' => by rw [upd2_sh1, if_neg (by omega)]) (fun s' hs' => ?_) (fun s' hs' => ?_)
  · have e1 := on_in (Z := upd2 Z 64 t v) (Z' := Z) (c := 1) (σ := nI s') (σ0 := nI s) ht (by rw [upd2_same]; exact hv1) h1 h5 (fun i hi => ⟨(upd64 i hi).1.symm, (upd64 i hi).2.symm⟩)
    have e2 := h.2.2.2.2.1 s' hs'
    rw [upd2_sh1]
    by_cases e : s' = s
    · subst e
      rw [if_pos rfl] at e1
      rw [if_pos ⟨rfl, rfl⟩, e2, e1]; exact nI_pred _
    · rw [if_neg (fun h => e ((nI_ss hs hs').mp h).symm), Nat.add_zero] at e1
      rw [if_neg (fun h => e h.1), e2, e1]
  · rw [on_same (Z := Z) (by rw [h1]; decide) (by rw [upd2_same]; exact hv6) upd64, upd2_sh1, if_neg (by omega)]; exact h.2.2.2.2.2 s' hs'
theorem cR_lose (h : cRel w a x o N Z) (hT : cTs q D N o) (ht : t < N) (hs : s < 5) (h1 : Z 64 t = 1) (h5 : Z 65 t = nI s) : cRel (upd2 (upd2 w (4 + 3 * s) 2 (w (4 + 3 * s) 2 + 1)) (4 + 3 * s) 1 (w (4 + 3 * s) 1 - 1)) a (upd2 x (o t) 4 6) o N (upd2 Z 64 t 6) := by
  refine cR_set4 h hT ht (fun s' hs' => by rw [upd2_sh1, if_neg (by omega), upd2_sh1, if_neg (by omega)]) (fun s' hs' => ?_) (fun s' hs' => ?_)
  · have e1 := on_in (Z := upd2 Z 64 t 6) (Z' := Z) (c := 1) (σ := nI s') (σ0 := nI s) ht (by rw [upd2_same]; decide) h1 h5 (fun i hi => ⟨(upd64 i hi).1.symm, (upd64 i hi).2.symm⟩)
    have e2 := h.2.2.2.2.1 s' hs'
    rw [upd2_sh1, upd2_sh1]
    by_cases e : s' = s
    · subst e
      rw [if_pos rfl] at e1
      rw [if_pos ⟨rfl, rfl⟩, e2, e1]; exact nI_pred _
    · rw [if_neg (fun h => e ((nI_ss hs hs').mp h).symm), Nat.add_zero] at e1
      rw [if_neg (fun h => e h.1), if_neg (fun h => e h.1), e2, e1]
  · rw [on_in (Z := Z) (σ0 := nI s) ht (by rw [h1]; decide) (by rw [upd2_same]) (by rw [upd2_row _ _ _ _ (by decide)]; exact h5) upd64, upd2_sh1, if_neg (by omega), upd2_sh1]
    have e2 := h.2.2.2.2.2 s' hs'
    by_cases e : s' = s
    · subst e; rw [if_pos ⟨rfl, rfl⟩, if_pos rfl, e2, nI_1]
    · rw [if_neg (fun h => e h.1), if_neg (fun h => e ((nI_ss hs hs').mp h).symm), Nat.add_zero]; exact e2
theorem cR_place (h : cRel w a x o N Z) (hT : cTs q D N o) (ht : t < N) (h1 : ¬ Z 64 t = 1) (h6 : ¬ Z 64 t = 6) (hv1 : ¬ v = 1) (hv6 : ¬ v = 6) : cRel w a (upd2 x (o t) 4 v) o N (upd2 Z 64 t v) := by
  refine cR_set4 h hT ht (fun s' hs' => rfl) (fun s' hs' => ?_) (fun s' hs' => ?_)
  · rw [on_same (Z := Z) h1 (by rw [upd2_same]; exact hv1) upd64]; exact h.2.2.2.2.1 s' hs'
  · rw [on_same (Z := Z) h6 (by rw [upd2_same]; exact hv6) upd64]; exact h.2.2.2.2.2 s' hs'
end GCR
/-- rows of w but the shops', rows of x but the things' -/
def cfw (w w' : Nat → Nat → Int32) : Prop := ∀ i, (∀ s, s < 5 → i ≠ 4 + 3 * s) → w' i = w i
def cfx (o : Nat → Nat) (N : Nat) (x x' : Nat → Nat → Int32) : Prop := (∀ i, (∀ t, t < N → i ≠ o t) → x' i = x i) ∧ ∀ i, x' i 8 = x i 8
theorem cfw_rf {w : Nat → Nat → Int32} : cfw w w := fun _ _ => rfl
theorem cfw_tr {w w1 w2 : Nat → Nat → Int32} (h : cfw w w1) (k : cfw w1 w2) : cfw w w2 := fun i hi => (k i hi).trans (h i hi)
theorem cfw_up {w w1 : Nat → Nat → Int32} (h : cfw w w1) {s : Nat} (hs : s < 5) (sl : Nat) (v : Int32) : cfw w (upd2 w1 (4 + 3 * s) sl v) := fun i hi => by rw [upd2_row _ _ _ _ (hi s hs)]; exact h i hi
theorem cfx_rf {o : Nat → Nat} {N : Nat} {x : Nat → Nat → Int32} : cfx o N x x := ⟨fun _ _ => rfl, fun _ => rfl⟩
theorem cfx_tr {o : Nat → Nat} {N : Nat} {x x1 x2 : Nat → Nat → Int32} (h : cfx o N x x1) (k : cfx o N x1 x2) : cfx o N x x2 := ⟨fun i hi => (k.1 i hi).trans (h.1 i hi), fun i => (k.2 i).trans (h.2 i)⟩
theorem cfx_up {o : Nat → Nat} {N t : Nat} {x x1 : Nat → Nat → Int32} (h : cfx o N x x1) (ht : t < N) {sl : Nat} (hsl : sl ≠ 8) (v : Int32) : cfx o N x (upd2 x1 (o t) sl v) := ⟨fun i hi => by rw [upd2_row _ _ _ _ (hi t ht)]; exact h.1 i hi, fun i => by
    by_cases e : i = o t
    · subst e; rw [upd2_col _ _ _ _ hsl.symm]; exact h.2 _
    · rw [upd2_row _ _ _ _ e]; exact h.2 i⟩
theorem cfa_gfa {w a x : Nat → Nat → Int32} {o : Nat → Nat} {N : Nat} {Z : Nat → Nat → Int32} (h : cRel w a x o N Z) (T t k : Nat) : cfa x a T (o t) k = gfa Z T t k := by
  obtain ⟨g1, g2, g3, g4, g5, g6⟩ := h
  unfold cfa gfa
  rw [g1 1 (by decide) t, g1 2 (by decide) t, g1 3 (by decide) t, g1 0 (by decide) t, g2]
theorem gsrt_no' {N : Nat} {rm : Nat → Int32} {now v : Int32} {wy t s : Nat} {Z : Nat → Nat → Int32} (hn : ¬ (wy = 1 ∧ gRoom N rm (gXo Z) s)) (hx : v = if wy ≤ 2 then 2 else nI wy) : gXo (upd2 Z 64 t v) = gsrt N rm now wy (gXo Z) t s := gsrt_no (a1 := Z) rfl rfl rfl hn hx
theorem gsrt_yes' {N : Nat} {rm : Nat → Int32} {now : Int32} {wy t s : Nat} {Z : Nat → Nat → Int32} (hn : wy = 1 ∧ gRoom N rm (gXo Z) s) : gXo (upd2 (upd2 (upd2 Z 64 t 1) 65 t (nI s)) 66 t now) = gsrt N rm now wy (gXo Z) t s := gsrt_yes (a1 := Z) rfl rfl rfl hn
section GC3
variable {w a : Nat → Nat → Int32} {b : Nat → Nat → Int64} {r : Nat → Nat → Nat} {q : Nat → Nat → Option Nat} {y : gH} {n u : Nat} {d : Nat}
variable {D : Nat → Nat} {x : Nat → Nat → Int32} {z : Nat → Nat} {o : Nat → Nat} {N : Nat} {Z : Nat → Nat → Int32}
theorem cRoom (h : cRel w a x o N Z) {s : Nat} (hs : s < 5) : w (4 + 3 * s) 1 < w (4 + 3 * s) 0 ↔ gRoom N (Z 69) (gXo Z) s := by
  rw [h.2.2.2.2.1 s hs, h.2.2.1 s hs]
/-- rows of a that sorting may write -/
abbrev cXs (e : Nat) : List Nat := [34, 26 + 5 * e]
theorem cXs_n {e j : Nat} (h1 : j ≠ 34) (h2 : j ≠ 26 + 5 * e) : j ∉ cXs e := by simp [h1, h2]
theorem cRel_ag {e : Nat} (he : e < 2) {a' : Nat → Nat → Int32} (hag : gag (cXs e) a a') (h : cRel w a x o N Z) : cRel w a' x o N Z :=
  cRel_a (hag 19 (cXs_n (by omega) (by omega))) (fun s hs => hag _ (cXs_n (by omega) (by omega))) h
theorem cTx_ag' {e : Nat} {w' a' : Nat → Nat → Int32} {ls : kLs} (hag : gag (cXs e) a a') (hw : cfw w w') (he : e < 2) (h : cTx w a e ls) : cTx w' a' e ls := by
  have h2 := cTx_ag (w := w) hag (cXs_n (by omega) (by omega)) (cXs_n (by omega) (by omega)) (cXs_n (by omega) (by omega)) h
  refine ⟨?_, h2.2⟩
  rw [hw (22 + 5 * e) (fun s hs => by omega)]; exact h2.1
theorem c_sortFor (hd : 4 ≤ d) {T t k e s : Nat} (hT : w 0 16 = nI T) (hT1 : T < 1000) (hTs : cTs q D N o) (ht : t < N) (hk8 : k < 8) (hkd : Z 61 t = nI k) (he : e < 2) (hr : r 0 8 = 22 + 5 * e) (hs : s < 5) (h1 : ¬ Z 64 t = 1) (h6 : ¬ Z 64 t = 6) {ls : kLs} (hls : cTx w a e ls) (hR : cRel w a x o N Z) :
    gE d 39 [.ref 0, .ref (o t), .int (nI s)] (n, u, HP w a b r q (gY D x z y)) (fun v S' => v = none ∧ ∃ w' a' x' Z', cRel w' a' x' o N Z' ∧ gag [64, 65, 66] Z Z' ∧ gXo Z' = gsrt N (Z 69) (nI T) (gway (gfa Z T t k) ls) (gXo Z) t s ∧ gag (cXs e) a a' ∧ cfw w w' ∧ cfx o N x x' ∧ S' = (n, u, HP w' a' b r q (gY D x' z y))) := by
  have hk : gMT[39]? = some gro_39 := rfl
  refine r_inQ hk [some (.ref 0), some (.ref (o t)), some (.int (nI s)), none] (Nat.le_of_ble_eq_true rfl) rfl ?_
  intro Q hQ
  have ho := (hTs.1 t ht).2
  have hrng : 1 ≤ gway (gfa Z T t k) ls ∧ gway (gfa Z T t k) ls ≤ 4 := by
    have : ∀ (ls : kLs), (∀ l ∈ ls, 1 ≤ l.1 ∧ l.1 ≤ 4) → 1 ≤ gway (gfa Z T t k) ls ∧ gway (gfa Z T t k) ls ≤ 4 := by
      intro ls
      induction ls with
      | nil => intro _; simp [gway]
      | cons l rs ih =>
        intro h
        obtain ⟨z, p⟩ := l
        simp only [gway]
        split
        · exact ih (fun l hl => h l (List.mem_cons_of_mem _ hl))
        · exact h (z, p) (by simp)
    exact this ls (fun l hl => ⟨(hls.2.1.2 l hl).1, (hls.2.1.2 l hl).2.1⟩)
  have hfa := cfa_gfa hR T t k
  generalize hwy : gway (gfa Z T t k) ls = wy at hrng hQ
  have q1 : nI wy = 1 ↔ wy = 1 := nI_eq (b := 1) (by omega) (by omega)
  have q6 : ¬ nI wy = 6 := fun h => by have := (nI_eq (a := wy) (b := 6) (by omega) (by omega)).mp h; omega
  iterate 2 refine r_step hk rfl rfl rfl ?_
  refine r_callV hk [.ref 0, .ref (o t)] [] rfl rfl rfl rfl rfl rfl rfl (by omega) (c_wayByText (by omega) hT hT1 ho hk8 (by rw [hR.1 1 (by decide) t]; exact hkd) he hr hls) ?_
  rw [hfa, hwy]
  rintro _ _ ⟨a1, hag, rfl, rfl⟩
  have hR1 := cRel_ag he hag hR
  have hrm := cRoom hR1 hs
  iterate 4 refine r_step hk rfl rfl rfl ?_
  refine r_eq (fun h8 => ?_) (fun h8 => ?_)
  · iterate 3 refine r_step hk rfl rfl rfl ?_
    refine r_qa hk (s) (4 + 3 * s) rfl rfl rfl hs rfl (gshops_at hs) ?_
    refine r_callV hk [.ref (4 + 3 * s)] [] rfl rfl rfl rfl rfl rfl (grcv_sh hs _) (by omega) (c_hasRoom hs) ?_
    rintro _ _ ⟨⟨hr1, rfl⟩ | ⟨hr1, rfl⟩, rfl⟩
    · refine r_step hk rfl rfl rfl ?_
      refine r_eq (fun hq9 => absurd hq9 (by decide)) (fun _ => ?_)
      iterate 5 refine r_step hk rfl rfl rfl ?_
      refine r_callV hk [.ref 0, .ref (o t), .int (nI s), .int (w 0 16)] [] rfl rfl rfl rfl rfl rfl rfl (by omega) (c_comeOnShelf ho hs _) ?_
      rintro _ _ ⟨rfl, rfl⟩
      refine r_step hk rfl rfl rfl ?_
      refine r_ret hk rfl rfl ?_
      first | exact hQ _ _ ⟨rfl, _, a1, _, _, cR_come hR1 hTs ht hs h1 h6, gag_up (gag_up (gag_up gag_rf (by decide)) (by decide)) (by decide), by rw [hT]; exact gsrt_yes' ⟨q1.mp h8, hrm.mp hr1⟩, hag, cfw_up cfw_rf hs _ _, cfx_up (cfx_up (cfx_up cfx_rf ht (by decide) _) ht (by decide) _) ht (by decide) _, rfl⟩ | exact hQ _ _ ⟨rfl, w, a1, _, _, cR_place hR1 hTs ht h1 h6 (by decide) (by decide), gag_up gag_rf (by decide), gsrt_no' (fun hc => hr1 (hrm.mpr hc.2)) (gsrt_x1 (q1.mp h8)), hag, cfw_rf, cfx_up cfx_rf ht (by decide) _, rfl⟩ | exact hQ _ _ ⟨rfl, w, a1, _, _, cR_place hR1 hTs ht h1 h6 h8 q6, gag_up gag_rf (by decide), gsrt_no' (fun hc => h8 (q1.mpr hc.1)) (by have := mt q1.mpr h8; by_cases e2 : wy ≤ 2; (rw [if_pos e2, show wy = 2 by omega]; rfl); rw [if_neg e2]), hag, cfw_rf, cfx_up cfx_rf ht (by decide) _, rfl⟩
    · refine r_step hk rfl rfl rfl ?_
      refine r_eq (fun _ => ?_) (fun hq9 => absurd (by decide) hq9)
      iterate 2 refine r_step hk rfl rfl rfl ?_
      refine r_putT hk rfl ho rfl ?_
      refine r_ret hk rfl rfl ?_
      first | exact hQ _ _ ⟨rfl, _, a1, _, _, cR_come hR1 hTs ht hs h1 h6, gag_up (gag_up (gag_up gag_rf (by decide)) (by decide)) (by decide), by rw [hT]; exact gsrt_yes' ⟨q1.mp h8, hrm.mp hr1⟩, hag, cfw_up cfw_rf hs _ _, cfx_up (cfx_up (cfx_up cfx_rf ht (by decide) _) ht (by decide) _) ht (by decide) _, rfl⟩ | exact hQ _ _ ⟨rfl, w, a1, _, _, cR_place hR1 hTs ht h1 h6 (by decide) (by decide), gag_up gag_rf (by decide), gsrt_no' (fun hc => hr1 (hrm.mpr hc.2)) (gsrt_x1 (q1.mp h8)), hag, cfw_rf, cfx_up cfx_rf ht (by decide) _, rfl⟩ | exact hQ _ _ ⟨rfl, w, a1, _, _, cR_place hR1 hTs ht h1 h6 h8 q6, gag_up gag_rf (by decide), gsrt_no' (fun hc => h8 (q1.mpr hc.1)) (by have := mt q1.mpr h8; by_cases e2 : wy ≤ 2; (rw [if_pos e2, show wy = 2 by omega]; rfl); rw [if_neg e2]), hag, cfw_rf, cfx_up cfx_rf ht (by decide) _, rfl⟩
  · iterate 2 refine r_step hk rfl rfl rfl ?_
    refine r_putT hk rfl ho rfl ?_
    refine r_step hk rfl rfl rfl ?_
    refine r_ret hk rfl rfl ?_
    first | exact hQ _ _ ⟨rfl, _, a1, _, _, cR_come hR1 hTs ht hs h1 h6, gag_up (gag_up (gag_up gag_rf (by decide)) (by decide)) (by decide), by rw [hT]; exact gsrt_yes' ⟨q1.mp h8, hrm.mp hr1⟩, hag, cfw_up cfw_rf hs _ _, cfx_up (cfx_up (cfx_up cfx_rf ht (by decide) _) ht (by decide) _) ht (by decide) _, rfl⟩ | exact hQ _ _ ⟨rfl, w, a1, _, _, cR_place hR1 hTs ht h1 h6 (by decide) (by decide), gag_up gag_rf (by decide), gsrt_no' (fun hc => hr1 (hrm.mpr hc.2)) (gsrt_x1 (q1.mp h8)), hag, cfw_rf, cfx_up cfx_rf ht (by decide) _, rfl⟩ | exact hQ _ _ ⟨rfl, w, a1, _, _, cR_place hR1 hTs ht h1 h6 h8 q6, gag_up gag_rf (by decide), gsrt_no' (fun hc => h8 (q1.mpr hc.1)) (by have := mt q1.mpr h8; by_cases e2 : wy ≤ 2; (rw [if_pos e2, show wy = 2 by omega]; rfl); rw [if_neg e2]), hag, cfw_rf, cfx_up cfx_rf ht (by decide) _, rfl⟩
theorem c_sort (hd : 5 ≤ d) {T e : Nat} (hN : w 0 1 = nI N) (hN1 : N ≤ 100) (hT : w 0 16 = nI T) (hT1 : T < 1000) (hTs : cTs q D N o) (hkd : ∀ t, t < N → gin (Z 61 t) 8) (he : e < 2) (hr : r 0 8 = 22 + 5 * e) {ls : kLs} (hls : cTx w a e ls) (hR : cRel w a x o N Z) (v1 v2 : Int32) :
    gE d 38 [.ref 0, .int v1, .int v2] (n, u, HP w a b r q (gY D x z y)) (fun v S' =>
    (∃ t s k w' a' x' Z', t < N ∧ s < 5 ∧ k < 8 ∧ v1 = nI t ∧ v2 = nI s ∧ Z 61 t = nI k ∧ (Z 64 t = 0 ∨ Z 64 t = 2 ∨ Z 64 t = 4) ∧ cRel w' a' x' o N Z' ∧ gag [64, 65, 66] Z Z' ∧ gXo Z' = gsrt N (Z 69) (nI T) (gway (gfa Z T t k) ls) (gXo Z) t s ∧ gag (cXs e) a a' ∧ cfw w w' ∧ cfx o N x x' ∧ v = some (.int (Z' 64 t)) ∧ S' = (n, u, HP w' a' b r q (gY D x' z y)))
    ∨ ((¬ ∃ t, t < N ∧ v1 = nI t ∧ gin v2 5 ∧ (Z 64 t = 0 ∨ Z 64 t = 2 ∨ Z 64 t = 4)) ∧ v = some (.int (-1)) ∧ S' = (n, u, HP w a b r q (gY D x z y)))) := by
  have hk : gMT[38]? = some gro_38 := rfl
  refine r_inQ hk [some (.ref 0), some (.int v1), some (.int v2), none] (Nat.le_of_ble_eq_true rfl) rfl ?_
  intro Q hQ
  have hp : ∀ t, x (o t) 4 = Z 64 t := fun t => hR.1 4 (by decide) t
  have go : ∀ t s, t < N → s < 5 → v1 = nI t → v2 = nI s → (Z 64 t = 0 ∨ Z 64 t = 2 ∨ Z 64 t = 4) → gX d 38 53 [some (.ref 0), some (.int v1), some (.int v2), some (.ref (o t))] [] (n, u, HP w a b r q (gY D x z y)) Q := by
    intro t s ht hs hx hz hst
    obtain ⟨k, hk8, ek⟩ := hkd t ht
    have h1 : ¬ Z 64 t = 1 := by rcases hst with e | e | e <;> rw [e] <;> decide
    have h6 : ¬ Z 64 t = 6 := by rcases hst with e | e | e <;> rw [e] <;> decide
    subst hx; subst hz
    iterate 3 refine r_step hk rfl rfl rfl ?_
    refine r_callV hk [.ref 0, .ref (o t), .int (nI s)] [] rfl rfl rfl rfl rfl rfl rfl (by omega) (c_sortFor (by omega) hT hT1 hTs ht hk8 ek he hr hs h1 h6 hls hR) ?_
    rintro _ _ ⟨rfl, w', a', x', Z', hR', hg, hX, hag, hfw, hfx, rfl⟩
    refine r_step hk rfl rfl rfl ?_
    refine r_getT hk rfl (hTs.1 t ht).2 rfl ?_
    refine r_iret hk rfl trivial ?_
    exact hQ _ _ (Or.inl ⟨t, s, k, w', a', x', Z', ht, hs, hk8, rfl, rfl, ek, hst, hR', hg, hX, hag, hfw, hfx, congrArg (fun z => some (Value.int z)) (hR'.1 4 (by decide) t), rfl⟩)
  iterate 3 refine r_step hk rfl rfl rfl ?_
  refine r_callS hk [.int v1, .int (w 0 1)] [] rfl rfl rfl rfl rfl (by omega) (by rw [hN]; exact c_within _ _ _ _ (by omega)) ?_
  rintro _ _ ⟨⟨⟨t, ht, hx⟩, rfl⟩ | ⟨hs, rfl⟩, rfl⟩
  · refine r_step hk rfl rfl rfl ?_
    refine r_eq (fun hq9 => absurd hq9 (by decide)) (fun _ => ?_)
    iterate 2 refine r_step hk rfl rfl rfl ?_
    refine r_callS hk [.int v2, .int 5] [] rfl rfl rfl rfl rfl (by omega) (c_within _ _ v2 5 (by decide)) ?_
    rintro _ _ ⟨⟨⟨s, hs5, hz⟩, rfl⟩ | ⟨hz, rfl⟩, rfl⟩
    · refine r_step hk rfl rfl rfl ?_
      refine r_ne (fun _ => ?_) (fun hq9 => absurd hq9 (by decide))
      iterate 3 refine r_step hk rfl rfl rfl ?_
      refine r_qa hk (t) (o t) rfl rfl hx (by omega) rfl (hTs.1 t ht).1 ?_
      iterate 2 refine r_step hk rfl rfl rfl ?_
      refine r_getT hk rfl (hTs.1 t ht).2 rfl ?_
      refine r_step hk rfl rfl rfl ?_
      refine r_eq (fun h32 => ?_) (fun h32 => ?_)
      · first | exact go t s ht hs5 hx hz (Or.inl ((hp t).symm.trans h32)) | exact go t s ht hs5 hx hz (Or.inr (Or.inl ((hp t).symm.trans h40))) | exact go t s ht hs5 hx hz (Or.inr (Or.inr ((hp t).symm.trans h48)))
      · refine r_step hk rfl rfl rfl ?_
        refine r_getT hk rfl (hTs.1 t ht).2 rfl ?_
        iterate 2 refine r_step hk rfl rfl rfl ?_
        refine r_eq (fun h40 => ?_) (fun h40 => ?_)
        · first | exact go t s ht hs5 hx hz (Or.inl ((hp t).symm.trans h32)) | exact go t s ht hs5 hx hz (Or.inr (Or.inl ((hp t).symm.trans h40))) | exact go t s ht hs5 hx hz (Or.inr (Or.inr ((hp t).symm.trans h48)))
        · refine r_step hk rfl rfl rfl ?_
          refine r_getT hk rfl (hTs.1 t ht).2 rfl ?_
          iterate 2 refine r_step hk rfl rfl rfl ?_
          refine r_eq (fun h48 => ?_) (fun h48 => ?_)
          · first | exact go t s ht hs5 hx hz (Or.inl ((hp t).symm.trans h32)) | exact go t s ht hs5 hx hz (Or.inr (Or.inl ((hp t).symm.trans h40))) | exact go t s ht hs5 hx hz (Or.inr (Or.inr ((hp t).symm.trans h48)))
          · refine r_step hk rfl rfl rfl ?_
            refine r_iret hk rfl trivial ?_
            first | exact hQ _ _ (Or.inr ⟨fun ⟨t2, ht2, e2, _, h3⟩ => by have e := nI_inj (hx.symm.trans e2) (by omega) (by omega); subst e; exact h3.elim (fun h4 => h32 ((hp t).trans h4)) (fun h4 => h4.elim (fun h4 => h40 ((hp t).trans h4)) (fun h4 => h48 ((hp t).trans h4))), rfl, rfl⟩) | exact hQ _ _ (Or.inr ⟨fun ⟨_, _, _, h2, _⟩ => hz h2, rfl, rfl⟩) | exact hQ _ _ (Or.inr ⟨fun ⟨t2, h2, e2, _, _⟩ => hs ⟨t2, h2, e2⟩, rfl, rfl⟩)
    · refine r_step hk rfl rfl rfl ?_
      refine r_ne (fun hq9 => absurd (by decide) hq9) (fun _ => ?_)
      refine r_step hk rfl rfl rfl ?_
      refine r_iret hk rfl trivial ?_
      first | exact hQ _ _ (Or.inr ⟨fun ⟨t2, ht2, e2, _, h3⟩ => by have e := nI_inj (hx.symm.trans e2) (by omega) (by omega); subst e; exact h3.elim (fun h4 => h32 ((hp t).trans h4)) (fun h4 => h4.elim (fun h4 => h40 ((hp t).trans h4)) (fun h4 => h48 ((hp t).trans h4))), rfl, rfl⟩) | exact hQ _ _ (Or.inr ⟨fun ⟨_, _, _, h2, _⟩ => hz h2, rfl, rfl⟩) | exact hQ _ _ (Or.inr ⟨fun ⟨t2, h2, e2, _, _⟩ => hs ⟨t2, h2, e2⟩, rfl, rfl⟩)
  · refine r_step hk rfl rfl rfl ?_
    refine r_eq (fun _ => ?_) (fun hq9 => absurd (by decide) hq9)
    refine r_step hk rfl rfl rfl ?_
    refine r_iret hk rfl trivial ?_
    first | exact hQ _ _ (Or.inr ⟨fun ⟨t2, ht2, e2, _, h3⟩ => by have e := nI_inj (hx.symm.trans e2) (by omega) (by omega); subst e; exact h3.elim (fun h4 => h32 ((hp t).trans h4)) (fun h4 => h4.elim (fun h4 => h40 ((hp t).trans h4)) (fun h4 => h48 ((hp t).trans h4))), rfl, rfl⟩) | exact hQ _ _ (Or.inr ⟨fun ⟨_, _, _, h2, _⟩ => hz h2, rfl, rfl⟩) | exact hQ _ _ (Or.inr ⟨fun ⟨t2, h2, e2, _, _⟩ => hs ⟨t2, h2, e2⟩, rfl, rfl⟩)
end GC3
