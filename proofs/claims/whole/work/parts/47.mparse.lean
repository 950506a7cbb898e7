-- deps: 37 38 39 43 44 45 46
/-! ===== the reference reads a text: small steps ===== -/
def kpl (ts : List kTok) : Prop := ∀ t ∈ ts, t.2.2 ≤ 600
theorem ktk_pl {f : Nat → Nat} {len p : Nat} (hp : p ≤ len) : (ktk f len p).1.2.2 ≤ len := by
  obtain ⟨b1, b2, b3, b4⟩ := kend_b (P := kbl) (f := f) (len := len) (len - p) p rfl hp
  unfold ktk
  split
  · exact Nat.le_refl _
  · split
    · exact b2
    · split
      · exact b2
      · exact b2
theorem ktl_pl {f : Nat → Nat} {len : Nat} : ∀ (k p : Nat), p ≤ len → len - p ≤ k → ∀ t ∈ ktl f len p, t.2.2 ≤ len := by
  intro k
  induction k using Nat.strongRecOn with
  | _ k ih =>
    intro p hp hk t ht
    by_cases e : len ≤ kend kbl f len p
    · rw [ktl_e hp e] at ht
      simp only [List.mem_singleton] at ht
      subst ht
      exact Nat.le_refl _
    · obtain ⟨k1, k2, k3⟩ := ktk_ne hp e
      rw [ktl_c hp e] at ht
      simp only [List.mem_cons] at ht
      rcases ht with rfl | ht
      · exact ktk_pl hp
      · exact ih (len - (ktk f len p).2) (by omega) (ktk f len p).2 k3 (Nat.le_refl _) t ht
def kwv (x : Nat) : Int32 := if x = 0 then 0 else nI (x - 10007)
def kMw (a : Nat → Nat → Int32) : List kWt → Prop
  | [] => True
  | t :: r => a 55 r.length = kwv t.1 ∧ a 56 r.length = kwv t.2.1 ∧ a 57 r.length = kwv t.2.2 ∧ kMw a r
def kMc (a : Nat → Nat → Int32) : Nat → List Nat → Prop
  | _, [] => True
  | i, e :: p => a 53 i = gmo e ∧ (e < 10006 → a 54 i = gme e) ∧ kMc a (i + 1) p
theorem kMw_cg {a a' : Nat → Nat → Int32} : ∀ stk : List kWt, (∀ j, j < stk.length → a' 55 j = a 55 j ∧ a' 56 j = a 56 j ∧ a' 57 j = a 57 j) → kMw a stk → kMw a' stk := by
  intro stk
  induction stk with
  | nil => intro _ _; trivial
  | cons t r ih =>
    intro h hm
    obtain ⟨e1, e2, e3⟩ := h r.length (by simp)
    exact ⟨e1.trans hm.1, e2.trans hm.2.1, e3.trans hm.2.2.1, ih (fun j hj => h j (by simp; omega)) hm.2.2.2⟩
theorem kMc_cg {a a' : Nat → Nat → Int32} : ∀ (cs : List Nat) (i : Nat), (∀ j, i ≤ j → j < i + cs.length → a' 53 j = a 53 j ∧ a' 54 j = a 54 j) → kMc a i cs → kMc a' i cs := by
  intro cs
  induction cs with
  | nil => intro i _ _; trivial
  | cons e p ih =>
    intro i h hm
    obtain ⟨e1, e2⟩ := h i (Nat.le_refl _) (by simp)
    exact ⟨e1.trans hm.1, fun z => e2.trans (hm.2.1 z), ih (i + 1) (fun j h1 h2 => h j (by omega) (by simp; omega)) hm.2.2⟩
theorem kMc_app {a : Nat → Nat → Int32} {e : Nat} : ∀ (cs : List Nat) (i : Nat), kMc a i cs → a 53 (i + cs.length) = gmo e → (e < 10006 → a 54 (i + cs.length) = gme e) → kMc a i (cs ++ [e]) := by
  intro cs
  induction cs with
  | nil => intro i _ h1 h2; exact ⟨h1, h2, trivial⟩
  | cons x p ih =>
    intro i h h1 h2
    have e1 : i + 1 + p.length = i + (x :: p).length := by simp; omega
    exact ⟨h.1, h.2.1, ih (i + 1) h.2.2 (by rw [e1]; exact h1) (by rw [e1]; exact h2)⟩
def kMs (w a : Nat → Nat → Int32) (b : Nat → Nat → Int64) (h2 base idx : Nat) (stk : List kWt) (ts : List kTok) (cs : List Nat) : Prop :=
  w 44 8 = 0 ∧ w 44 7 = nI idx ∧ idx + ts.length ≤ 602 ∧ kTrs a b idx ts ∧ kpl ts ∧ w 44 16 = nI h2 ∧ h2 < 2 ∧ w 44 17 = nI (base + cs.length) ∧ kMc a (660 * h2 + base) cs ∧ w 44 18 = nI (stk.length - 1) ∧ kMw a stk
def kfr (h2 base : Nat) (w a w' a' : Nat → Nat → Int32) : Prop := (∀ j, j ≠ 44 → w' j = w j) ∧ (∀ s, s ∉ [7, 8, 17, 18] → w' 44 s = w 44 s) ∧ gag [53, 54, 55, 56, 57] a a' ∧ ∀ i, (i < 660 * h2 + base ∨ 660 * h2 + 660 ≤ i) → a' 53 i = a 53 i ∧ a' 54 i = a 54 i
theorem kfr_rf {h2 base : Nat} {w a : Nat → Nat → Int32} : kfr h2 base w a w a := ⟨fun _ _ => rfl, fun _ _ => rfl, gag_rf, fun _ _ => ⟨rfl, rfl⟩⟩
theorem kfr_tr {h2 base : Nat} {w a w1 a1 w2 a2 : Nat → Nat → Int32} (h : kfr h2 base w a w1 a1) (k : kfr h2 base w1 a1 w2 a2) : kfr h2 base w a w2 a2 := ⟨fun j hj => (k.1 j hj).trans (h.1 j hj), fun s hs => (k.2.1 s hs).trans (h.2.1 s hs), gag_tr h.2.2.1 k.2.2.1, fun i hi => ⟨(k.2.2.2 i hi).1.trans (h.2.2.2 i hi).1, (k.2.2.2 i hi).2.trans (h.2.2.2 i hi).2⟩⟩
theorem kfr_w {h2 base : Nat} {w a w1 a1 : Nat → Nat → Int32} (h : kfr h2 base w a w1 a1) {s : Nat} (hs : s ∈ [7, 8, 17, 18]) (x : Int32) : kfr h2 base w a (upd2 w1 44 s x) a1 := ⟨fun j hj => by rw [upd2_row _ _ _ _ hj]; exact h.1 j hj, fun t ht => by
    have : t ≠ s := fun e => ht (e ▸ hs)
    rw [upd2_col _ _ _ _ this]; exact h.2.1 t ht, h.2.2⟩
theorem kfr_a {h2 base : Nat} {w a w1 a1 : Nat → Nat → Int32} (h : kfr h2 base w a w1 a1) {j : Nat} (hj : j ∈ [55, 56, 57]) (i : Nat) (x : Int32) : kfr h2 base w a w1 (upd2 a1 j i x) := ⟨h.1, h.2.1, gag_up h.2.2.1 (by
    simp only [List.mem_cons, List.not_mem_nil, or_false] at hj ⊢
    omega), fun t ht => by
    simp only [List.mem_cons, List.not_mem_nil, or_false] at hj
    rw [upd2_row _ _ _ _ (by omega : (53 : Nat) ≠ j), upd2_row _ _ _ _ (by omega : (54 : Nat) ≠ j)]; exact h.2.2.2 t ht⟩
theorem kfr_e {h2 base c0 : Nat} {w a w1 a1 : Nat → Nat → Int32} (h : kfr h2 base w a w1 a1) (h1 : base ≤ c0) (h3 : c0 < 660) (x x1 x2 : Int32) : kfr h2 base w a (upd2 w1 44 17 x) (upd2 (upd2 a1 53 (660 * h2 + c0) x1) 54 (660 * h2 + c0) x2) := by
  have h' := kfr_w h (s := 17) (by decide) x
  refine ⟨h'.1, h'.2.1, gag_up (gag_up h'.2.2.1 (by decide)) (by decide), fun t ht => ?_⟩
  have : ¬ t = 660 * h2 + c0 := by omega
  refine ⟨?_, ?_⟩
  · rw [upd2_row _ _ _ _ (by decide), upd2_at, if_neg this]; exact (h'.2.2.2 t ht).1
  · rw [upd2_at, if_neg this, upd2_row _ _ _ _ (by decide)]; exact (h'.2.2.2 t ht).2
theorem kTrs_row {a a' : Nat → Nat → Int32} {b : Nat → Nat → Int64} {i : Nat} {ts : List kTok} (e1 : a' 46 = a 46) (e2 : a' 47 = a 47) (h : kTrs a b i ts) : kTrs a' b i ts := kTrs_cg ts i (fun j _ _ => ⟨by rw [e1], by rw [e2], rfl⟩) h
theorem kMs_emit {w a : Nat → Nat → Int32} {b : Nat → Nat → Int64} {h2 base idx : Nat} {stk : List kWt} {ts : List kTok} {cs : List Nat} (h : kMs w a b h2 base idx stk ts cs) {e : Nat} {x1 x2 : Int32} (hx1 : x1 = gmo e) (hx2 : e < 10006 → x2 = gme e) : kMs (upd2 w 44 17 (nI (base + cs.length + 1))) (upd2 (upd2 a 53 (660 * h2 + (base + cs.length)) x1) 54 (660 * h2 + (base + cs.length)) x2) b h2 base idx stk ts (cs ++ [e]) := by
  obtain ⟨i1, i2, i3, i4, i5, i6, i7, i8, i9, i10, i11⟩ := h
  refine ⟨?_, ?_, i3, kTrs_row (a := a) rfl rfl i4, i5, ?_, i7, ?_, ?_, ?_, kMw_cg (a := a) stk (fun j _ => ⟨rfl, rfl, rfl⟩) i11⟩
  · rw [upd2_col _ _ _ _ (by decide)]; exact i1
  · rw [upd2_col _ _ _ _ (by decide)]; exact i2
  · rw [upd2_col _ _ _ _ (by decide)]; exact i6
  · rw [upd2_same, List.length_append, List.length_singleton, Nat.add_assoc]
  · refine kMc_app cs _ (kMc_cg cs _ (fun j hj1 hj2 => ?_) i9) ?_ (fun he => ?_)
    · have : ¬ j = 660 * h2 + (base + cs.length) := by omega
      refine ⟨?_, ?_⟩
      · rw [upd2_row _ _ _ _ (by decide), upd2_at, if_neg this]
      · rw [upd2_at, if_neg this, upd2_row _ _ _ _ (by decide)]
    · rw [upd2_row _ _ _ _ (by decide), upd2_at, if_pos (by omega)]; exact hx1
    · rw [upd2_at, if_pos (by omega)]; exact hx2 he
  · rw [upd2_col _ _ _ _ (by decide)]; exact i10
theorem kMs_next {w a : Nat → Nat → Int32} {b : Nat → Nat → Int64} {h2 base idx : Nat} {stk : List kWt} {ts : List kTok} {cs : List Nat} (h : kMs w a b h2 base idx stk ts cs) (hts : ts ≠ []) : kMs (upd2 w 44 7 (nI (idx + 1))) a b h2 base (idx + 1) stk ts.tail cs := by
  obtain ⟨i1, i2, i3, i4, i5, i6, i7, i8, i9, i10, i11⟩ := h
  cases ts with
  | nil => exact absurd rfl hts
  | cons t r =>
    refine ⟨?_, upd2_same _ _ _ _, by simp at i3 ⊢; omega, i4.2, fun x hx => i5 x (List.mem_cons_of_mem _ hx), ?_, i7, ?_, i9, ?_, i11⟩
    · rw [upd2_col _ _ _ _ (by decide)]; exact i1
    · rw [upd2_col _ _ _ _ (by decide)]; exact i6
    · rw [upd2_col _ _ _ _ (by decide)]; exact i8
    · rw [upd2_col _ _ _ _ (by decide)]; exact i10
theorem kMs_a {w a : Nat → Nat → Int32} {b : Nat → Nat → Int64} {h2 base idx : Nat} {stk stk' : List kWt} {ts : List kTok} {cs : List Nat} {j i : Nat} {x : Int32} (h : kMs w a b h2 base idx stk ts cs) (hj : j ∈ [55, 56, 57]) (hl : stk'.length = stk.length) (hm : kMw (upd2 a j i x) stk') : kMs w (upd2 a j i x) b h2 base idx stk' ts cs := by
  obtain ⟨i1, i2, i3, i4, i5, i6, i7, i8, i9, i10, i11⟩ := h
  simp only [List.mem_cons, List.not_mem_nil, or_false] at hj
  refine ⟨i1, i2, i3, kTrs_row (upd2_row _ _ _ _ (by omega)) (upd2_row _ _ _ _ (by omega)) i4, i5, i6, i7, i8, kMc_cg cs _ (fun k _ _ => ⟨by rw [upd2_row _ _ _ _ (by omega)], by rw [upd2_row _ _ _ _ (by omega)]⟩) i9, by rw [hl]; exact i10, hm⟩
theorem kMw_s {a : Nat → Nat → Int32} {s c z s' : Nat} {r : List kWt} {x : Int32} (h : kMw a ((s, c, z) :: r)) (hx : x = kwv s') : kMw (upd2 a 55 r.length x) ((s', c, z) :: r) :=
  ⟨by rw [upd2_same]; exact hx, by rw [upd2_row _ _ _ _ (by decide)]; exact h.2.1, by rw [upd2_row _ _ _ _ (by decide)]; exact h.2.2.1, kMw_cg r (fun j hj => ⟨by rw [upd2_at, if_neg (by omega)], by rw [upd2_row _ _ _ _ (by decide)], by rw [upd2_row _ _ _ _ (by decide)]⟩) h.2.2.2⟩
theorem kMw_c {a : Nat → Nat → Int32} {s c z c' : Nat} {r : List kWt} {x : Int32} (h : kMw a ((s, c, z) :: r)) (hx : x = kwv c') : kMw (upd2 a 56 r.length x) ((s, c', z) :: r) :=
  ⟨by rw [upd2_row _ _ _ _ (by decide)]; exact h.1, by rw [upd2_same]; exact hx, by rw [upd2_row _ _ _ _ (by decide)]; exact h.2.2.1, kMw_cg r (fun j hj => ⟨by rw [upd2_row _ _ _ _ (by decide)], by rw [upd2_at, if_neg (by omega)], by rw [upd2_row _ _ _ _ (by decide)]⟩) h.2.2.2⟩
theorem kMw_z {a : Nat → Nat → Int32} {s c z z' : Nat} {r : List kWt} {x : Int32} (h : kMw a ((s, c, z) :: r)) (hx : x = kwv z') : kMw (upd2 a 57 r.length x) ((s, c, z') :: r) :=
  ⟨by rw [upd2_row _ _ _ _ (by decide)]; exact h.1, by rw [upd2_row _ _ _ _ (by decide)]; exact h.2.1, by rw [upd2_same]; exact hx, kMw_cg r (fun j hj => ⟨by rw [upd2_row _ _ _ _ (by decide)], by rw [upd2_row _ _ _ _ (by decide)], by rw [upd2_at, if_neg (by omega)]⟩) h.2.2.2⟩
theorem kMs_pop {w a : Nat → Nat → Int32} {b : Nat → Nat → Int64} {h2 base idx : Nat} {t : kWt} {r : List kWt} {ts : List kTok} {cs : List Nat} (h : kMs w a b h2 base idx (t :: r) ts cs) : kMs (upd2 w 44 18 (nI (r.length - 1))) a b h2 base idx r ts cs := by
  obtain ⟨i1, i2, i3, i4, i5, i6, i7, i8, i9, i10, i11⟩ := h
  refine ⟨?_, ?_, i3, i4, i5, ?_, i7, ?_, i9, upd2_same _ _ _ _, i11.2.2.2⟩
  · rw [upd2_col _ _ _ _ (by decide)]; exact i1
  · rw [upd2_col _ _ _ _ (by decide)]; exact i2
  · rw [upd2_col _ _ _ _ (by decide)]; exact i6
  · rw [upd2_col _ _ _ _ (by decide)]; exact i8
theorem kMs_push {w a : Nat → Nat → Int32} {b : Nat → Nat → Int64} {h2 base idx : Nat} {stk : List kWt} {ts : List kTok} {cs : List Nat} (h : kMs w a b h2 base idx stk ts cs) : kMs (upd2 w 44 18 (nI stk.length)) (upd2 (upd2 (upd2 a 55 stk.length 0) 56 stk.length 0) 57 stk.length 0) b h2 base idx ((0, 0, 0) :: stk) ts cs := by
  obtain ⟨i1, i2, i3, i4, i5, i6, i7, i8, i9, i10, i11⟩ := h
  refine ⟨?_, ?_, i3, kTrs_row (a := a) rfl rfl i4, i5, ?_, i7, ?_, kMc_cg (a := a) cs _ (fun k _ _ => ⟨rfl, rfl⟩) i9, ?_, ?_⟩
  · rw [upd2_col _ _ _ _ (by decide)]; exact i1
  · rw [upd2_col _ _ _ _ (by decide)]; exact i2
  · rw [upd2_col _ _ _ _ (by decide)]; exact i6
  · rw [upd2_col _ _ _ _ (by decide)]; exact i8
  · rw [upd2_same]; rfl
  · refine ⟨?_, ?_, ?_, kMw_cg stk (fun j hj => ?_) i11⟩
    · rw [upd2_row _ _ _ _ (by decide), upd2_row _ _ _ _ (by decide), upd2_same]; rfl
    · rw [upd2_row _ _ _ _ (by decide), upd2_same]; rfl
    · rw [upd2_same]; rfl
    · have : ¬ j = stk.length := by omega
      refine ⟨?_, ?_, ?_⟩
      · rw [upd2_row _ _ _ _ (by decide), upd2_row _ _ _ _ (by decide), upd2_at, if_neg this]
      · rw [upd2_row _ _ _ _ (by decide), upd2_at, if_neg this, upd2_row _ _ _ _ (by decide)]
      · rw [upd2_at, if_neg this, upd2_row _ _ _ _ (by decide), upd2_row _ _ _ _ (by decide)]
theorem kTrs_hd {a : Nat → Nat → Int32} {b : Nat → Nat → Int64} {i : Nat} {ts : List kTok} (h : kTrs a b i ts) (hn : ts ≠ []) : kTr a b i (khd ts) := by
  cases ts with
  | nil => exact absurd rfl hn
  | cons t r => exact h.1
theorem kMs_ix {w a : Nat → Nat → Int32} {b : Nat → Nat → Int64} {h2 base idx : Nat} {stk : List kWt} {ts : List kTok} {cs : List Nat} (h : kMs w a b h2 base idx stk ts cs) (hts : ts ≠ []) : idx < 602 ∧ kTr a b idx (khd ts) ∧ (khd ts).2.2 ≤ 600 := by
  refine ⟨?_, kTrs_hd h.2.2.2.1 hts, ?_⟩
  · have := h.2.2.1
    have : ts.length ≠ 0 := fun e => hts (List.length_eq_zero_iff.mp e)
    omega
  · refine h.2.2.2.2.1 _ ?_
    cases ts with
    | nil => exact absurd rfl hts
    | cons t r => simp [khd]
theorem nI_660 (s k : Nat) : 660 * nI s + nI k = nI (660 * s + k) := by
  rw [show (660 : Int32) = nI 660 from rfl, pk_mul, nI_add]
section GM15
variable {w a : Nat → Nat → Int32} {b : Nat → Nat → Int64} {r : Nat → Nat → Nat} {q : Nat → Nat → Option Nat} {y : gH} {n u : Nat} {d : Nat}
theorem m_isSign {idx : Nat} {t : kTok} (hf : w 44 8 = 0) (hat : w 44 7 = nI idx) (hi : idx < 602) (ht : kTr a b idx t) {c : Nat} (hc : ksg c = true) : gE d 110 [.ref 44, .int (nI c)] (n, u, HP w a b r q y) (gbo (t.1 = c) (n, u, HP w a b r q y)) := by
  have hk : gMT[110]? = some gro_110 := rfl
  refine r_in hk [some (.ref 44), some (.int (nI c))] (Nat.le_of_ble_eq_true rfl) rfl ?_
  have hr := ksg_r hc
  have hcm : lg_cmp (b 48 idx) (nI c).toInt64 = 0 ↔ b 48 idx = lN c := by rw [lg_cmp_eq, nI_l (by omega)]
  have hk2 := kTr_sign ht hc
  iterate 3 refine r_step hk rfl rfl rfl ?_
  refine r_ne (fun hq9 => absurd hf hq9) (fun _ => ?_)
  iterate 4 refine r_step hk rfl rfl rfl ?_
  refine r_ia hk (idx) rfl rfl hat hi rfl ?_
  iterate 2 refine r_step hk rfl rfl rfl ?_
  refine r_ne (fun h17 => ?_) (fun h17 => ?_)
  · refine r_step hk rfl rfl rfl ?_
    refine r_iret hk rfl (Or.inl rfl) ?_
    first | exact gbo_f (fun z => h17 (hk2.mpr z).1) | exact gbo_f (fun z => h32 (hcm.mpr (hk2.mpr z).2)) | exact gbo_t (hk2.mp ⟨h17, hcm.mp h32⟩)
  · iterate 4 refine r_step hk rfl rfl rfl ?_
    refine r_la hk (idx) rfl rfl hat hi rfl ?_
    iterate 4 refine r_step hk rfl rfl rfl ?_
    refine r_ne (fun h32 => ?_) (fun h32 => ?_)
    · refine r_step hk rfl rfl rfl ?_
      refine r_iret hk rfl (Or.inl rfl) ?_
      first | exact gbo_f (fun z => h17 (hk2.mpr z).1) | exact gbo_f (fun z => h32 (hcm.mpr (hk2.mpr z).2)) | exact gbo_t (hk2.mp ⟨h17, hcm.mp h32⟩)
    · iterate 2 refine r_step hk rfl rfl rfl ?_
      refine r_iret hk rfl (Or.inr rfl) ?_
      first | exact gbo_f (fun z => h17 (hk2.mpr z).1) | exact gbo_f (fun z => h32 (hcm.mpr (hk2.mpr z).2)) | exact gbo_t (hk2.mp ⟨h17, hcm.mp h32⟩)
theorem m_isWord {idx : Nat} {t : kTok} (hwd : ∀ k, k < 12 → b 49 k = lN (kwd.getD k 0)) (hf : w 44 8 = 0) (hat : w 44 7 = nI idx) (hi : idx < 602) (ht : kTr a b idx t) {c : Nat} (hc : c < 12) : gE d 103 [.ref 44, .int (nI c)] (n, u, HP w a b r q y) (gbo (t.1 = 200 + c) (n, u, HP w a b r q y)) := by
  have hk : gMT[103]? = some gro_103 := rfl
  refine r_in hk [some (.ref 44), some (.int (nI c))] (Nat.le_of_ble_eq_true rfl) rfl ?_
  have hcm : lg_cmp (b 48 idx) (b 49 c) = 0 ↔ b 48 idx = lN (kwd.getD c 0) := by rw [lg_cmp_eq, hwd c hc]
  have hk2 := kTr_word ht hc
  iterate 3 refine r_step hk rfl rfl rfl ?_
  refine r_ne (fun hq9 => absurd hf hq9) (fun _ => ?_)
  iterate 4 refine r_step hk rfl rfl rfl ?_
  refine r_ia hk (idx) rfl rfl hat hi rfl ?_
  iterate 2 refine r_step hk rfl rfl rfl ?_
  refine r_ne (fun h17 => ?_) (fun h17 => ?_)
  · refine r_step hk rfl rfl rfl ?_
    refine r_iret hk rfl (Or.inl rfl) ?_
    first | exact gbo_f (fun z => h17 (hk2.mpr z).1) | exact gbo_f (fun z => h36 (hcm.mpr (hk2.mpr z).2)) | exact gbo_t (hk2.mp ⟨h17, hcm.mp h36⟩)
  · iterate 4 refine r_step hk rfl rfl rfl ?_
    refine r_la hk (idx) rfl rfl hat hi rfl ?_
    iterate 3 refine r_step hk rfl rfl rfl ?_
    refine r_la hk (c) rfl rfl rfl hc rfl ?_
    iterate 2 refine r_step hk rfl rfl rfl ?_
    refine r_ne (fun h36 => ?_) (fun h36 => ?_)
    · refine r_step hk rfl rfl rfl ?_
      refine r_iret hk rfl (Or.inl rfl) ?_
      first | exact gbo_f (fun z => h17 (hk2.mpr z).1) | exact gbo_f (fun z => h36 (hcm.mpr (hk2.mpr z).2)) | exact gbo_t (hk2.mp ⟨h17, hcm.mp h36⟩)
    · iterate 2 refine r_step hk rfl rfl rfl ?_
      refine r_iret hk rfl (Or.inr rfl) ?_
      first | exact gbo_f (fun z => h17 (hk2.mpr z).1) | exact gbo_f (fun z => h36 (hcm.mpr (hk2.mpr z).2)) | exact gbo_t (hk2.mp ⟨h17, hcm.mp h36⟩)
theorem m_wrong {idx : Nat} {t : kTok} (hf : w 44 8 = 0) (hat : w 44 7 = nI idx) (hi : idx < 602) (ht : kTr a b idx t) (c : Nat) : gE d 104 [.ref 44, .int (nI c)] (n, u, HP w a b r q y) (fun v S' => v = none ∧ S' = (n, u, HP (upd2 w 44 8 (nI (c + 16 * t.2.2))) a b r q y)) := by
  have hk : gMT[104]? = some gro_104 := rfl
  refine r_in hk [some (.ref 44), some (.int (nI c))] (Nat.le_of_ble_eq_true rfl) rfl ?_
  have e1 : nI c + 16 * a 47 idx = nI (c + 16 * t.2.2) := by rw [ht.1, show (16 : Int32) = nI 16 from rfl, pk_mul, nI_add]
  iterate 3 refine r_step hk rfl rfl rfl ?_
  refine r_ne (fun hq9 => absurd hf hq9) (fun _ => ?_)
  iterate 7 refine r_step hk rfl rfl rfl ?_
  refine r_ia hk (idx) rfl rfl hat hi rfl ?_
  iterate 2 refine r_step hk rfl rfl rfl ?_
  refine r_putI hk rfl rfl rfl rfl ?_
  refine r_ret hk rfl rfl ?_
  refine ⟨rfl, ?_⟩
  rw [← e1]
theorem m_emit {h2 c0 : Nat} (hn : w 44 16 = nI h2) (hn2 : h2 < 2) (hc : w 44 17 = nI c0) (hc6 : c0 < 660) (x1 x2 : Int32) : gE d 112 [.ref 44, .int x1, .int x2] (n, u, HP w a b r q y) (fun v S' => v = none ∧ S' = (n, u, HP (upd2 w 44 17 (nI (c0 + 1))) (upd2 (upd2 a 53 (660 * h2 + c0) x1) 54 (660 * h2 + c0) x2) b r q y)) := by
  have hk : gMT[112]? = some gro_112 := rfl
  refine r_in hk [some (.ref 44), some (.int x1), some (.int x2)] (Nat.le_of_ble_eq_true rfl) rfl ?_
  have e1 : 660 * w 44 16 + w 44 17 = nI (660 * h2 + c0) := by rw [hn, hc]; exact nI_660 h2 c0
  have e2 : w 44 17 + 1 = nI (c0 + 1) := by rw [hc]; exact nI_1 c0
  iterate 10 refine r_step hk rfl rfl rfl ?_
  refine r_is hk (660 * h2 + c0) rfl rfl rfl e1 (by omega) rfl rfl ?_
  iterate 10 refine r_step hk rfl rfl rfl ?_
  refine r_is hk (660 * h2 + c0) rfl rfl rfl e1 (by omega) rfl rfl ?_
  iterate 5 refine r_step hk rfl rfl rfl ?_
  refine r_putI hk rfl rfl rfl rfl ?_
  refine r_ret hk rfl rfl ?_
  refine ⟨rfl, ?_⟩
  rw [← e2]
theorem m_opens {dp : Nat} (hdp : w 44 18 = nI dp) (h7 : dp < 7) : gE d 107 [.ref 44] (n, u, HP w a b r q y) (fun v S' => v = none ∧ S' = (n, u, HP w (upd2 (upd2 (upd2 a 55 dp 0) 56 dp 0) 57 dp 0) b r q y)) := by
  have hk : gMT[107]? = some gro_107 := rfl
  refine r_in hk [some (.ref 44)] (Nat.le_of_ble_eq_true rfl) rfl ?_
  iterate 5 refine r_step hk rfl rfl rfl ?_
  refine r_is hk (dp) rfl rfl rfl hdp h7 rfl rfl ?_
  iterate 5 refine r_step hk rfl rfl rfl ?_
  refine r_is hk (dp) rfl rfl rfl hdp h7 rfl rfl ?_
  iterate 5 refine r_step hk rfl rfl rfl ?_
  refine r_is hk (dp) rfl rfl rfl hdp h7 rfl rfl ?_
  refine r_ret hk rfl rfl ?_
  exact ⟨rfl, rfl⟩
theorem m_takeSign (hd : 1 ≤ d) {idx : Nat} {t : kTok} (hf : w 44 8 = 0) (hat : w 44 7 = nI idx) (hi : idx < 602) (ht : kTr a b idx t) {c : Nat} (hc : ksg c = true) : gE d 114 [.ref 44, .int (nI c)] (n, u, HP w a b r q y) (fun v S' => v = none ∧ ((t.1 = c ∧ S' = (n, u, HP (upd2 w 44 7 (nI (idx + 1))) a b r q y)) ∨ (¬ t.1 = c ∧ S' = (n, u, HP (upd2 w 44 8 (nI (1 + 16 * t.2.2))) a b r q y)))) := by
  have hk : gMT[114]? = some gro_114 := rfl
  refine r_in hk [some (.ref 44), some (.int (nI c))] (Nat.le_of_ble_eq_true rfl) rfl ?_
  have e2 : w 44 7 + 1 = nI (idx + 1) := by rw [hat]; exact nI_1 idx
  iterate 2 refine r_step hk rfl rfl rfl ?_
  refine r_callV hk [.ref 44, .int (nI c)] [] rfl rfl rfl rfl rfl rfl rfl hd (m_isSign hf hat hi ht hc) ?_
  rintro _ _ ⟨⟨hs, rfl⟩ | ⟨hs, rfl⟩, rfl⟩
  · refine r_step hk rfl rfl rfl ?_
    refine r_eq (fun hq9 => absurd hq9 (by decide)) (fun _ => ?_)
    iterate 5 refine r_step hk rfl rfl rfl ?_
    refine r_putI hk rfl rfl rfl rfl ?_
    refine r_step hk rfl rfl rfl ?_
    refine r_ret hk rfl rfl ?_
    first | exact ⟨rfl, Or.inr ⟨hs, rfl⟩⟩ | (refine ⟨rfl, Or.inl ⟨hs, ?_⟩⟩; rw [← e2])
  · refine r_step hk rfl rfl rfl ?_
    refine r_eq (fun _ => ?_) (fun hq9 => absurd (by decide) hq9)
    iterate 2 refine r_step hk rfl rfl rfl ?_
    refine r_callV hk [.ref 44, .int 1] [] rfl rfl rfl rfl rfl rfl rfl hd (m_wrong hf hat hi ht 1) ?_
    rintro _ _ ⟨rfl, rfl⟩
    refine r_ret hk rfl rfl ?_
    first | exact ⟨rfl, Or.inr ⟨hs, rfl⟩⟩ | (refine ⟨rfl, Or.inl ⟨hs, ?_⟩⟩; rw [← e2])
theorem m_hasSign (hd : 1 ≤ d) {idx : Nat} {t : kTok} (hf : w 44 8 = 0) (hat : w 44 7 = nI idx) (hi : idx < 602) (ht : kTr a b idx t) {c : Nat} (hc : ksg c = true) : gE d 111 [.ref 44, .int (nI c)] (n, u, HP w a b r q y) (fun v S' => (t.1 = c ∧ v = some (.int 1) ∧ S' = (n, u, HP (upd2 w 44 7 (nI (idx + 1))) a b r q y)) ∨ (¬ t.1 = c ∧ v = some (.int 0) ∧ S' = (n, u, HP w a b r q y))) := by
  have hk : gMT[111]? = some gro_111 := rfl
  refine r_in hk [some (.ref 44), some (.int (nI c)), none] (Nat.le_of_ble_eq_true rfl) rfl ?_
  have e2 : w 44 7 + 1 = nI (idx + 1) := by rw [hat]; exact nI_1 idx
  have e3 : upd2 w 44 7 (w 44 7 + 0) = w := upd2_id (Int32.add_zero _).symm
  refine r_step hk rfl rfl rfl ?_
  refine r_step hk rfl rfl rfl ?_
  refine r_callV hk [.ref 44, .int (nI c)] [] rfl rfl rfl rfl rfl rfl rfl hd (m_isSign hf hat hi ht hc) ?_
  rintro _ _ ⟨⟨hs, rfl⟩ | ⟨hs, rfl⟩, rfl⟩
  · skip
    iterate 6 refine r_step hk rfl rfl rfl ?_
    refine r_eq (fun hq9 => absurd hq9 (show ¬ (1 : Int32) = 0 by decide)) (fun _ => ?_)
    iterate 3 refine r_step hk rfl rfl rfl ?_
    refine r_putI hk rfl rfl rfl rfl ?_
    refine r_step hk rfl rfl rfl ?_
    refine r_iret hk rfl ?_ ?_
    refine (Or.inr rfl)
    refine Or.inl ⟨hs, rfl, ?_⟩
    rw [← e2]
  · skip
    iterate 6 refine r_step hk rfl rfl rfl ?_
    refine r_eq (fun _ => ?_) (fun hq9 => absurd (show (0 : Int32) = 0 from rfl) hq9)
    iterate 2 refine r_step hk rfl rfl rfl ?_
    refine r_putI hk rfl rfl rfl rfl ?_
    refine r_step hk rfl rfl rfl ?_
    refine r_iret hk rfl ?_ ?_
    refine (Or.inl rfl)
    refine Or.inr ⟨hs, rfl, ?_⟩
    show (n, u, HP (upd2 w 44 7 (w 44 7 + 0)) a b r q y) = _
    rw [e3]
theorem m_hasWord (hd : 1 ≤ d) {idx : Nat} {t : kTok} (hwd : ∀ k, k < 12 → b 49 k = lN (kwd.getD k 0)) (hf : w 44 8 = 0) (hat : w 44 7 = nI idx) (hi : idx < 602) (ht : kTr a b idx t) {c : Nat} (hc : c < 12) : gE d 106 [.ref 44, .int (nI c)] (n, u, HP w a b r q y) (fun v S' => (t.1 = 200 + c ∧ v = some (.int 1) ∧ S' = (n, u, HP (upd2 w 44 7 (nI (idx + 1))) a b r q y)) ∨ (¬ t.1 = 200 + c ∧ v = some (.int 0) ∧ S' = (n, u, HP w a b r q y))) := by
  have hk : gMT[106]? = some gro_106 := rfl
  refine r_in hk [some (.ref 44), some (.int (nI c)), none] (Nat.le_of_ble_eq_true rfl) rfl ?_
  have e2 : w 44 7 + 1 = nI (idx + 1) := by rw [hat]; exact nI_1 idx
  have e3 : upd2 w 44 7 (w 44 7 + 0) = w := upd2_id (Int32.add_zero _).symm
  refine r_step hk rfl rfl rfl ?_
  refine r_step hk rfl rfl rfl ?_
  refine r_callV hk [.ref 44, .int (nI c)] [] rfl rfl rfl rfl rfl rfl rfl hd (m_isWord hwd hf hat hi ht hc) ?_
  rintro _ _ ⟨⟨hs, rfl⟩ | ⟨hs, rfl⟩, rfl⟩
  · skip
    iterate 6 refine r_step hk rfl rfl rfl ?_
    refine r_eq (fun hq9 => absurd hq9 (show ¬ (1 : Int32) = 0 by decide)) (fun _ => ?_)
    iterate 3 refine r_step hk rfl rfl rfl ?_
    refine r_putI hk rfl rfl rfl rfl ?_
    refine r_step hk rfl rfl rfl ?_
    refine r_iret hk rfl ?_ ?_
    refine (Or.inr rfl)
    refine Or.inl ⟨hs, rfl, ?_⟩
    rw [← e2]
  · skip
    iterate 6 refine r_step hk rfl rfl rfl ?_
    refine r_eq (fun _ => ?_) (fun hq9 => absurd (show (0 : Int32) = 0 from rfl) hq9)
    iterate 2 refine r_step hk rfl rfl rfl ?_
    refine r_putI hk rfl rfl rfl rfl ?_
    refine r_step hk rfl rfl rfl ?_
    refine r_iret hk rfl ?_ ?_
    refine (Or.inl rfl)
    refine Or.inr ⟨hs, rfl, ?_⟩
    show (n, u, HP (upd2 w 44 7 (w 44 7 + 0)) a b r q y) = _
    rw [e3]
theorem m_takeWord (hd : 2 ≤ d) {idx : Nat} {t : kTok} (hwd : ∀ k, k < 12 → b 49 k = lN (kwd.getD k 0)) (hf : w 44 8 = 0) (hat : w 44 7 = nI idx) (hi : idx < 602) (ht : kTr a b idx t) {c : Nat} (hc : c < 12) : gE d 105 [.ref 44, .int (nI c)] (n, u, HP w a b r q y) (fun v S' => v = none ∧ ((t.1 = 200 + c ∧ S' = (n, u, HP (upd2 w 44 7 (nI (idx + 1))) a b r q y)) ∨ (¬ t.1 = 200 + c ∧ S' = (n, u, HP (upd2 w 44 8 (nI (1 + 16 * t.2.2))) a b r q y)))) := by
  have hk : gMT[105]? = some gro_105 := rfl
  refine r_in hk [some (.ref 44), some (.int (nI c))] (Nat.le_of_ble_eq_true rfl) rfl ?_
  iterate 2 refine r_step hk rfl rfl rfl ?_
  refine r_callV hk [.ref 44, .int (nI c)] [] rfl rfl rfl rfl rfl rfl rfl (by omega) (m_hasWord (by omega) hwd hf hat hi ht hc) ?_
  rintro _ _ (⟨hs, rfl, rfl⟩ | ⟨hs, rfl, rfl⟩)
  · refine r_step hk rfl rfl rfl ?_
    refine r_ne (fun _ => ?_) (fun hq9 => absurd hq9 (by decide))
    refine r_ret hk rfl rfl ?_
    first | exact ⟨rfl, Or.inr ⟨hs, rfl⟩⟩ | exact ⟨rfl, Or.inl ⟨hs, rfl⟩⟩
  · refine r_step hk rfl rfl rfl ?_
    refine r_ne (fun hq9 => absurd (by decide) hq9) (fun _ => ?_)
    iterate 2 refine r_step hk rfl rfl rfl ?_
    refine r_callV hk [.ref 44, .int 1] [] rfl rfl rfl rfl rfl rfl rfl (by omega) (m_wrong hf hat hi ht 1) ?_
    rintro _ _ ⟨rfl, rfl⟩
    refine r_ret hk rfl rfl ?_
    first | exact ⟨rfl, Or.inr ⟨hs, rfl⟩⟩ | exact ⟨rfl, Or.inl ⟨hs, rfl⟩⟩
theorem m_partWord (hd : 1 ≤ d) {idx : Nat} {t : kTok} (hwd : ∀ k, k < 12 → b 49 k = lN (kwd.getD k 0)) (hf : w 44 8 = 0) (hat : w 44 7 = nI idx) (hi : idx < 602) (ht : kTr a b idx t) : gE d 109 [.ref 44] (n, u, HP w a b r q y) (fun v S' => S' = (n, u, HP w a b r q y) ∧ ((∃ k, k < 6 ∧ t.1 = 206 + k ∧ v = some (.int (nI k))) ∨ ((∀ k, k < 6 → ¬ t.1 = 206 + k) ∧ v = some (.int (-1))))) := by
  have hk : gMT[109]? = some gro_109 := rfl
  refine r_in hk [some (.ref 44), none] (Nat.le_of_ble_eq_true rfl) rfl ?_
  have loop : ∀ k, k ≤ 6 → ∀ z : Int32, z = nI k → (∀ j, j < k → ¬ t.1 = 206 + j) → gX d 109 2 [some (.ref 44), some (.int z)] [] (n, u, HP w a b r q y) (fun v S' => S' = (n, u, HP w a b r q y) ∧ ((∃ k, k < 6 ∧ t.1 = 206 + k ∧ v = some (.int (nI k))) ∨ ((∀ k, k < 6 → ¬ t.1 = 206 + k) ∧ v = some (.int (-1))))) := by
    refine g_down ?_ ?_
    · intro z hz hno
      subst hz
      iterate 3 refine r_step hk rfl rfl rfl ?_
      refine r_ge (fun _ => ?_) (fun hq9 => absurd (by decide) hq9)
      refine r_step hk rfl rfl rfl ?_
      refine r_iret hk rfl trivial ?_
      exact ⟨rfl, Or.inr ⟨hno, rfl⟩⟩
    · intro k hk6 ih z hz hno
      subst hz
      have e6 : (6 : Int32) + nI k = nI (6 + k) := nI_add 6 k
      iterate 3 refine r_step hk rfl rfl rfl ?_
      refine r_ge (fun hq9 => absurd hq9 (show ¬ nI 6 ≤ nI k from nI_ge hk6 (by decide))) (fun _ => ?_)
      iterate 4 refine r_step hk rfl rfl rfl ?_
      refine r_callV hk [.ref 44, .int (6 + nI k)] [] rfl rfl rfl rfl rfl rfl rfl hd (by rw [e6]; exact m_isWord hwd hf hat hi ht (by omega)) ?_
      rintro _ _ ⟨⟨hs, rfl⟩ | ⟨hs, rfl⟩, rfl⟩
      · refine r_step hk rfl rfl rfl ?_
        refine r_eq (fun hq9 => absurd hq9 (by decide)) (fun _ => ?_)
        refine r_step hk rfl rfl rfl ?_
        refine r_iret hk rfl trivial ?_
        exact ⟨rfl, Or.inl ⟨k, hk6, by omega, rfl⟩⟩
      · refine r_step hk rfl rfl rfl ?_
        refine r_eq (fun _ => ?_) (fun hq9 => absurd (by decide) hq9)
        iterate 2 refine r_step hk rfl rfl rfl ?_
        exact ih _ (nI_1 k) (fun j hj => by by_cases e : j = k; (subst e; omega); exact hno j (by omega))
  iterate 2 refine r_step hk rfl rfl rfl ?_
  exact loop 0 (Nat.zero_le _) _ rfl (fun j hj => absurd hj (by omega))
end GM15
