/-! ===== the reference: says, weeks, look, count, relief ===== -/
theorem gag_cg {X : List Nat} {a a1 : Nat → Nat → Int32} (h : gag X a a1) (j s : Nat) (x : Int32) : gag X (upd2 a j s x) (upd2 a1 j s x) := by
  intro i hi
  by_cases e : i = j
  · subst e
    funext t
    rw [upd2_at, upd2_at, h i hi]
  · rw [upd2_row _ _ _ _ e, upd2_row _ _ _ _ e]; exact h i hi
theorem gag_sy {X : List Nat} {a a1 : Nat → Nat → Int32} (h : gag X a a1) : gag X a1 a := fun j hj => (h j hj).symm
theorem upd2_id {α : Type} {f : Nat → Nat → α} {j s : Nat} {x : α} (h : f j s = x) : upd2 f j s x = f := by
  funext i t
  by_cases e : i = j
  · subst e; rw [upd2_at]
    by_cases e2 : t = s
    · subst e2; rw [if_pos rfl, h]
    · rw [if_neg e2]
  · rw [upd2_row _ _ _ _ e]
theorem upd2_2 {α : Type} (f : Nat → Nat → α) (j s : Nat) (x z : α) : upd2 (upd2 f j s x) j s z = upd2 f j s z := by
  funext i t
  by_cases e : i = j
  · subst e; rw [upd2_at, upd2_at, upd2_at]
    by_cases e2 : t = s
    · rw [if_pos e2, if_pos e2]
    · rw [if_neg e2, if_neg e2, if_neg e2]
  · rw [upd2_row _ _ _ _ e, upd2_row _ _ _ _ e, upd2_row _ _ _ _ e]
def gwkX (ls : List (Nat × List Nat)) (N T : Nat) (Z : Nat → Nat → Int32) : gP3 := if (T + 1) % 13 = 0 then gsea N (Z 69) (nI (T + 1)) (fun t => gway (gfa Z (T + 1) t (Z 61 t).toNatClampNeg) ls) (Z 63) (nI ((T + 1) / 13 % 4)) N (grag N (nI (T + 1)) (gXo Z)) else grag N (nI (T + 1)) (gXo Z)
/-- a week, in the reference's rows -/
def gwkZ (ls : List (Nat × List Nat)) (N T : Nat) (rate : Int32) (Z : Nat → Nat → Int32) : Nat → Nat → Int32 := fun j => if j = 64 then (gwkX ls N T Z).1 else if j = 65 then (gwkX ls N T Z).2.1 else if j = 66 then (gwkX ls N T Z).2.2 else if j = 70 then (fun i => Z 70 i + nI (glc (Z 64) (Z 65) (Z 61) i N)) else if j = 73 then gu (Z 73) (T / 52) rate else Z j
def gwks (ls : List (Nat × List Nat)) (N : Nat) (rate : Int32) : Nat → Nat → (Nat → Nat → Int32) → Nat → Nat → Int32
  | 0, _, Z => Z
  | k + 1, T, Z => gwks ls N rate k (T + 1) (gwkZ ls N T rate Z)
theorem gfa_ag {Z Z' : Nat → Nat → Int32} {X : List Nat} (h : gag X Z Z') (hX : 60 ∉ X ∧ 61 ∉ X ∧ 62 ∉ X ∧ 63 ∉ X ∧ 68 ∉ X) (T t k : Nat) : gfa Z' T t k = gfa Z T t k := by
  unfold gfa
  rw [h 61 hX.2.1, h 62 hX.2.2.1, h 63 hX.2.2.2.1, h 68 hX.2.2.2.2, h 60 hX.1]
theorem gwkX_ag {ls : List (Nat × List Nat)} {N T : Nat} {Z Z' : Nat → Nat → Int32} (h : gag [58, 59] Z Z') : gwkX ls N T Z' = gwkX ls N T Z := by
  unfold gwkX gXo
  rw [h 69 (by decide), h 63 (by decide), h 64 (by decide), h 65 (by decide), h 66 (by decide), h 61 (by decide)]
  simp only [gfa_ag h (by decide)]
theorem gwkZ_ag {ls : List (Nat × List Nat)} {N T : Nat} {rate : Int32} {Z Z' : Nat → Nat → Int32} (h : gag [58, 59] Z Z') : gag [58, 59] (gwkZ ls N T rate Z) (gwkZ ls N T rate Z') := by
  intro j hj
  unfold gwkZ
  rw [gwkX_ag h, h 70 (by decide), h 64 (by decide), h 65 (by decide), h 61 (by decide), h 73 (by decide), h j hj]
theorem gwks_ag {ls : List (Nat × List Nat)} {N : Nat} {rate : Int32} : ∀ (k T : Nat) {Z Z' : Nat → Nat → Int32}, gag [58, 59] Z Z' → gag [58, 59] (gwks ls N rate k T Z) (gwks ls N rate k T Z') := by
  intro k
  induction k with
  | zero => intro T Z Z' h; exact h
  | succ k ih => intro T Z Z' h; exact ih (T + 1) (gwkZ_ag h)
theorem gsrt_sh {N t s : Nat} {rm : Nat → Int32} {now : Int32} {wy : Nat} {X : gP3} (hs : s < 5) (M : Nat) (h : ∀ t, t < M → gin (X.2.1 t) 5) : ∀ t', t' < M → gin ((gsrt N rm now wy X t s).2.1 t') 5 := by
  intro t' ht'
  unfold gsrt
  split
  · show gin (gu X.2.1 t (nI s) t') 5
    unfold gu
    split
    · exact ⟨s, hs, rfl⟩
    · exact h t' ht'
  · exact h t' ht'
theorem gsea_sh {N : Nat} {rm : Nat → Int32} {now : Int32} {wy : Nat → Nat} {se : Nat → Int32} {ssn : Int32} {X : gP3} (M : Nat) (h : ∀ t, t < M → gin (X.2.1 t) 5) : ∀ k, ∀ t, t < M → gin ((gsea N rm now wy se ssn k X).2.1 t) 5 := by
  intro k
  induction k with
  | zero => exact h
  | succ k ih =>
    unfold gsea
    split
    · exact gsrt_sh (gfst_lt _ _ _) M ih
    · exact ih
theorem gwkX_sh {ls : List (Nat × List Nat)} {N T : Nat} {Z : Nat → Nat → Int32} (M : Nat) (h : ∀ t, t < M → gin (Z 65 t) 5) : ∀ t, t < M → gin ((gwkX ls N T Z).2.1 t) 5 := by
  unfold gwkX
  split
  · exact gsea_sh M h N
  · exact h
theorem gwkZ_o {ls : List (Nat × List Nat)} {N T : Nat} {rate : Int32} {Z : Nat → Nat → Int32} {j : Nat} (h : j ≠ 64 ∧ j ≠ 65 ∧ j ≠ 66 ∧ j ≠ 70 ∧ j ≠ 73) : gwkZ ls N T rate Z j = Z j := by
  unfold gwkZ
  rw [if_neg h.1, if_neg h.2.1, if_neg h.2.2.1, if_neg h.2.2.2.1, if_neg h.2.2.2.2]
theorem gwkZ_g {ls : List (Nat × List Nat)} {N T : Nat} {rate : Int32} {Z : Nat → Nat → Int32} : gag [64, 65, 66, 70, 73] Z (gwkZ ls N T rate Z) := by
  intro j hj
  simp only [List.mem_cons, List.not_mem_nil, or_false, not_or] at hj
  exact gwkZ_o hj
section GM10
variable {w a : Nat → Nat → Int32} {b : Nat → Nat → Int64} {r : Nat → Nat → Nat} {q : Nat → Nat → Option Nat} {y : gH} {n u : Nat} {d : Nat}
theorem m_week' (hd : 4 ≤ d) {N T h : Nat} (hN : w 44 25 = nI N) (hN1 : N ≤ 100) (hT : w 44 24 = nI T) (hT1 : T < 519) (hh : w 44 15 = nI h) (hh1 : h < 2) {ls : List (Nat × List Nat)} (hls : gmText a h ls) (hkd : ∀ t, t < N → gin (a 61 t) 8) (hsh : ∀ t, t < N → gin (a 65 t) 5) :
    gE d 132 [.ref 44] (n, u, HP w a b r q y) (fun v S' => v = none ∧ ∃ a', gag [58, 59] (gwkZ ls N T (w 44 39) a) a' ∧ S' = (n, u, HP (upd2 w 44 24 (nI (T + 1))) a' b r q y)) := by
  refine gE_mono (Nat.le_refl _) (m_week hd hN hN1 hT hT1 hh hh1 hls hkd hsh) ?_
  rintro v S' ⟨rfl, a', hag, h70, h73, hX, rfl⟩
  refine ⟨rfl, a', ?_, rfl⟩
  have hX' : gXo a' = gwkX ls N T a := hX
  intro j hj
  unfold gwkZ
  by_cases e : j = 64
  · subst e; rw [if_pos rfl, ← hX']
  rw [if_neg e]
  by_cases e1 : j = 65
  · subst e1; rw [if_pos rfl, ← hX']
  rw [if_neg e1]
  by_cases e2 : j = 66
  · subst e2; rw [if_pos rfl, ← hX']
  rw [if_neg e2]
  by_cases e3 : j = 70
  · subst e3; rw [if_pos rfl]; funext i; exact h70 i
  rw [if_neg e3]
  by_cases e4 : j = 73
  · subst e4; rw [if_pos rfl]; exact h73
  rw [if_neg e4]
  refine hag j ?_
  simp only [List.mem_cons, List.not_mem_nil, or_false, not_or] at hj ⊢
  exact ⟨hj.1, hj.2, e, e1, e2, e3, e4⟩
theorem m_weeks (hd : 5 ≤ d) {N T h : Nat} (hN : w 44 25 = nI N) (hN1 : N ≤ 100) (hT : w 44 24 = nI T) (hT1 : T ≤ 519) (hh : w 44 15 = nI h) (hh1 : h < 2) {ls : List (Nat × List Nat)} (hls : gmText a h ls) (hkd : ∀ t, t < N → gin (a 61 t) 8) (hsh : ∀ t, t < N → gin (a 65 t) 5) (x : Int32) :
    gE d 131 [.ref 44, .int x] (n, u, HP w a b r q y) (fun v S' => (∃ k a', k < 61 ∧ T + k ≤ 519 ∧ x = nI k ∧ gag [58, 59] (gwks ls N (w 44 39) k T a) a' ∧ v = some (.int (nI (T + k))) ∧ S' = (n, u, HP (upd2 (gTh w) 44 24 (nI (T + k))) a' b r q y))
      ∨ ((¬ ∃ k, k < 61 ∧ T + k ≤ 519 ∧ x = nI k) ∧ v = some (.int (-1)) ∧ S' = (n, u, HP (gTh w) a b r q y))) := by
  have hk : gMT[131]? = some gro_131 := rfl
  refine r_in hk [some (.ref 44), some (.int x), none] (Nat.le_of_ble_eq_true rfl) rfl ?_
  have loop : ∀ (k : Nat), k < 61 → T + k ≤ 519 → ∀ i, i ≤ k → ∀ (a1 : Nat → Nat → Int32) (z : Int32), z = nI i → gag [64, 65, 66, 70, 73, 58, 59] a a1 → (∀ t, t < N → gin (a1 65 t) 5) → gag [58, 59] (gwks ls N (w 44 39) k T a) (gwks ls N (w 44 39) (k - i) (T + i) a1) →
      gX d 131 31 [some (.ref 44), some (.int (nI k)), some (.int z)] [] (n, u, HP (upd2 (gTh w) 44 24 (nI (T + i))) a1 b r q y) (fun v S' => (∃ k' a', k' < 61 ∧ T + k' ≤ 519 ∧ nI k = nI k' ∧ gag [58, 59] (gwks ls N (w 44 39) k' T a) a' ∧ v = some (.int (nI (T + k'))) ∧ S' = (n, u, HP (upd2 (gTh w) 44 24 (nI (T + k'))) a' b r q y))
      ∨ ((¬ ∃ k', k' < 61 ∧ T + k' ≤ 519 ∧ nI k = nI k') ∧ v = some (.int (-1)) ∧ S' = (n, u, HP (gTh w) a b r q y))) := by
    intro k hk61 hTk
    refine g_down ?_ ?_
    · intro a1 z hz hag hs1 hg
      subst hz
      rw [Nat.sub_self] at hg
      iterate 3 refine r_step hk rfl rfl rfl ?_
      refine r_ge (fun _ => ?_) (fun hq9 => absurd (nI_le (Nat.le_refl _) (by omega)) hq9)
      iterate 2 refine r_step hk rfl rfl rfl ?_
      refine r_iret hk rfl trivial ?_
      exact Or.inl ⟨k, a1, hk61, hTk, rfl, hg, rfl, rfl⟩
    · intro i hi ih a1 z hz hag hs1 hg
      subst hz
      have e61 : a1 61 = a 61 := hag 61 (by decide)
      iterate 3 refine r_step hk rfl rfl rfl ?_
      refine r_ge (fun hq9 => absurd hq9 (nI_ge hi (by omega))) (fun _ => ?_)
      refine r_step hk rfl rfl rfl ?_
      refine r_callV hk [.ref 44] [] rfl rfl rfl rfl rfl rfl rfl (by omega) (m_week' (w := upd2 (gTh w) 44 24 (nI (T + i))) (N := N) (T := T + i) (h := h) (ls := ls) (by omega) hN hN1 rfl (by omega) hh hh1 (gmText_ag hag (by decide) hls) (by rw [e61]; exact hkd) hs1) ?_
      rintro _ _ ⟨rfl, a2, hag2, rfl⟩
      rw [upd2_2]
      iterate 2 refine r_step hk rfl rfl rfl ?_
      refine ih a2 _ (nI_1 i) (gag_tr (gag_tr hag (gag_sub gwkZ_g (by decide))) (gag_sub hag2 (by decide))) ?_ ?_
      (intro t ht; rw [hag2 65 (by decide)]; exact gwkX_sh N hs1 t ht)
      refine gag_tr hg ?_
      rw [show k - i = (k - (i + 1)) + 1 by omega]
      exact gwks_ag _ _ hag2
  have hsum : ∀ k, k < 61 → w 44 24 + nI k = nI (T + k) := fun k _ => by rw [hT, nI_add]
  iterate 2 refine r_step hk rfl rfl rfl ?_
  refine r_putI hk rfl rfl rfl rfl ?_
  iterate 2 refine r_step hk rfl rfl rfl ?_
  refine r_lt (fun h6 => ?_) (fun h6 => ?_)
  · refine r_step hk rfl rfl rfl ?_
    refine r_iret hk rfl trivial ?_
    first | exact Or.inr ⟨fun ⟨k, h1, h2, e⟩ => h24 (by subst e; show w 44 24 + nI k ≤ 519; rw [hsum k h1]; exact nI_le h2 (by decide)), rfl, rfl⟩ | exact Or.inr ⟨fun ⟨k, h1, h2, e⟩ => gin_gt (M := 60) h12 (by decide) ⟨k, h1, e⟩, rfl, rfl⟩ | exact Or.inr ⟨fun ⟨k, h1, h2, e⟩ => gin_lt (N := 61) h6 (by decide) ⟨k, h1, e⟩, rfl, rfl⟩
  · iterate 3 refine r_step hk rfl rfl rfl ?_
    refine r_gt (fun h12 => ?_) (fun h12 => ?_)
    · refine r_step hk rfl rfl rfl ?_
      refine r_iret hk rfl trivial ?_
      first | exact Or.inr ⟨fun ⟨k, h1, h2, e⟩ => h24 (by subst e; show w 44 24 + nI k ≤ 519; rw [hsum k h1]; exact nI_le h2 (by decide)), rfl, rfl⟩ | exact Or.inr ⟨fun ⟨k, h1, h2, e⟩ => gin_gt (M := 60) h12 (by decide) ⟨k, h1, e⟩, rfl, rfl⟩ | exact Or.inr ⟨fun ⟨k, h1, h2, e⟩ => gin_lt (N := 61) h6 (by decide) ⟨k, h1, e⟩, rfl, rfl⟩
    · iterate 6 refine r_step hk rfl rfl rfl ?_
      refine r_le (fun h24 => ?_) (fun h24 => ?_)
      · iterate 2 refine r_step hk rfl rfl rfl ?_
        obtain ⟨k, hk61, rfl⟩ := gin_of' (M := 60) h6 h12 (by decide)
        have hle : T + k ≤ 519 := (nI_leI (by omega) (by omega)).mp (show nI (T + k) ≤ nI 519 by rw [← hsum k hk61]; exact h24)
        have hlp := loop k hk61 hle 0 (Nat.zero_le _) a _ rfl gag_rf hsh gag_rf
        rw [Nat.add_zero, upd2_id (f := gTh w) (j := 44) (s := 24) (x := nI T) hT] at hlp
        exact hlp
      · refine r_step hk rfl rfl rfl ?_
        refine r_iret hk rfl trivial ?_
        first | exact Or.inr ⟨fun ⟨k, h1, h2, e⟩ => h24 (by subst e; show w 44 24 + nI k ≤ 519; rw [hsum k h1]; exact nI_le h2 (by decide)), rfl, rfl⟩ | exact Or.inr ⟨fun ⟨k, h1, h2, e⟩ => gin_gt (M := 60) h12 (by decide) ⟨k, h1, e⟩, rfl, rfl⟩ | exact Or.inr ⟨fun ⟨k, h1, h2, e⟩ => gin_lt (N := 61) h6 (by decide) ⟨k, h1, e⟩, rfl, rfl⟩
theorem m_within14 (d : Nat) (S : gS) (x : Int32) : gE d 116 [.int x, .int 1, .int 4] S (gbo (∃ j, 1 ≤ j ∧ j < 5 ∧ x = nI j) S) := by
  have hk : gMT[116]? = some gro_116 := rfl
  refine r_in hk [some (.int x), some (.int 1), some (.int 4)] (Nat.le_of_ble_eq_true rfl) rfl ?_
  have key1 : x < 1 → ¬ ∃ j, 1 ≤ j ∧ j < 5 ∧ x = nI j := by
    rintro h ⟨j, h1, h2, rfl⟩
    have := (nI_ltI (a := j) (b := 1) (by omega) (by omega)).mp h
    omega
  have key2 : (4 : Int32) < x → ¬ ∃ j, 1 ≤ j ∧ j < 5 ∧ x = nI j := by
    rintro h ⟨j, h1, h2, rfl⟩
    have := (nI_ltI (a := 4) (b := j) (by omega) (by omega)).mp h
    omega
  have key3 : ¬ x < 1 → ¬ (4 : Int32) < x → ∃ j, 1 ≤ j ∧ j < 5 ∧ x = nI j := by
    intro h1 h2
    have h0 : ¬ x < 0 := fun h => h1 (by
      have e1 : x.toInt < (0 : Int32).toInt := Int32.lt_iff_toInt_lt.mp h
      refine Int32.lt_iff_toInt_lt.mpr ?_
      have e2 : (0 : Int32).toInt = 0 := by decide
      have e3 : (1 : Int32).toInt = 1 := by decide
      omega)
    obtain ⟨j, hj, rfl⟩ := gin_of' (M := 4) h0 h2 (by decide)
    refine ⟨j, ?_, hj, rfl⟩
    rcases Nat.lt_or_ge j 1 with h | h
    · exact absurd ((nI_ltI (a := j) (b := 1) (by omega) (by omega)).mpr h) h1
    · exact h
  iterate 3 refine r_step hk rfl rfl rfl ?_
  refine r_lt (fun h2 => ?_) (fun h2 => ?_)
  · refine r_step hk rfl rfl rfl ?_
    refine r_iret hk rfl (Or.inl rfl) ?_
    first | exact gbo_t (key3 (by assumption) (by assumption)) | exact gbo_f (key1 (by assumption)) | exact gbo_f (key2 (by assumption))
  · iterate 3 refine r_step hk rfl rfl rfl ?_
    refine r_gt (fun h7 => ?_) (fun h7 => ?_)
    · refine r_step hk rfl rfl rfl ?_
      refine r_iret hk rfl (Or.inl rfl) ?_
      first | exact gbo_t (key3 (by assumption) (by assumption)) | exact gbo_f (key1 (by assumption)) | exact gbo_f (key2 (by assumption))
    · iterate 2 refine r_step hk rfl rfl rfl ?_
      refine r_iret hk rfl (Or.inr rfl) ?_
      first | exact gbo_t (key3 (by assumption) (by assumption)) | exact gbo_f (key1 (by assumption)) | exact gbo_f (key2 (by assumption))
theorem m_says (hd : 2 ≤ d) {N T h : Nat} (hN : w 44 25 = nI N) (hN1 : N ≤ 100) (hT : w 44 24 = nI T) (hT1 : T < 1000) (hh : w 44 15 = nI h) (hh1 : h < 2) {ls : List (Nat × List Nat)} (hls : gmText a h ls) (hkd : ∀ t, t < N → gin (a 61 t) 8) (x1 x2 x3 : Int32) :
    gE d 129 [.ref 44, .int x1, .int x2, .int x3] (n, u, HP w a b r q y) (fun v S' => (∃ i t k j a', i < 10 ∧ t < N ∧ k < 8 ∧ 1 ≤ j ∧ j < 5 ∧ x1 = nI i ∧ x2 = nI t ∧ x3 = nI j ∧ a 61 t = nI k ∧ gag [58, 59] (upd2 (upd2 a 71 i (a 71 i + 1)) 72 i (a 72 i + if j = gway (gfa a T t k) ls then 1 else 0)) a' ∧ v = some (.int (if j = gway (gfa a T t k) ls then 1 else 0)) ∧ S' = (n, u, HP (gTh w) a' b r q y))
      ∨ (¬ (gin x1 10 ∧ gin x2 N ∧ ∃ j, 1 ≤ j ∧ j < 5 ∧ x3 = nI j) ∧ v = some (.int (-1)) ∧ S' = (n, u, HP (gTh w) a b r q y))) := by
  have hk : gMT[129]? = some gro_129 := rfl
  refine r_in hk [some (.ref 44), some (.int x1), some (.int x2), some (.int x3), none] (Nat.le_of_ble_eq_true rfl) rfl ?_
  iterate 2 refine r_step hk rfl rfl rfl ?_
  refine r_putI hk rfl rfl rfl rfl ?_
  iterate 3 refine r_step hk rfl rfl rfl ?_
  refine r_callS hk [.int x1, .int 0, .int 9] [] rfl rfl rfl rfl rfl (by omega) (m_within _ _ _ 9 (by decide)) ?_
  rintro _ _ ⟨⟨⟨i, hi, rfl⟩, rfl⟩ | ⟨hs, rfl⟩, rfl⟩
  · refine r_step hk rfl rfl rfl ?_
    refine r_eq (fun hq9 => absurd hq9 (by decide)) (fun _ => ?_)
    iterate 2 refine r_step hk rfl rfl rfl ?_
    refine r_callV hk [.ref 44, .int x2] [] rfl rfl rfl rfl rfl rfl rfl (by omega) (m_isThing (w := gTh w) hN hN1 x2) ?_
    rintro _ _ ⟨⟨⟨t, ht, rfl⟩, rfl⟩ | ⟨hs, rfl⟩, rfl⟩
    · obtain ⟨k, hk8, ek⟩ := hkd t ht
      refine r_step hk rfl rfl rfl ?_
      refine r_eq (fun hq9 => absurd hq9 (by decide)) (fun _ => ?_)
      iterate 3 refine r_step hk rfl rfl rfl ?_
      refine r_callS hk [.int x3, .int 1, .int 4] [] rfl rfl rfl rfl rfl (by omega) (m_within14 _ _ _) ?_
      rintro _ _ ⟨⟨⟨j, h1, hj, rfl⟩, rfl⟩ | ⟨hs, rfl⟩, rfl⟩
      · refine r_step hk rfl rfl rfl ?_
        refine r_ne (fun _ => ?_) (fun hq9 => absurd hq9 (by decide))
        iterate 3 refine r_step hk rfl rfl rfl ?_
        refine r_callV hk [.ref 44, .int (nI t)] [.int (nI j)] rfl rfl rfl rfl rfl rfl rfl (by omega) (m_wayOf (w := gTh w) (by omega) hT hT1 (by omega) hk8 ek hh hh1 hls) ?_
        rintro _ _ ⟨a1, hag, rfl, rfl⟩
        have hrng := gway_rng (gfa a T t k) ls 0 hls.2.2
        have hq : nI j = nI (gway (gfa a T t k) ls) ↔ j = gway (gfa a T t k) ls := nI_eq (by omega) (by omega)
        have e71 := hag 71 (by decide)
        have e72 := hag 72 (by decide)
        refine r_step hk rfl rfl rfl ?_
        refine r_ne (fun h40 => ?_) (fun h40 => ?_)
        · iterate 6 refine r_step hk rfl rfl rfl ?_
          refine r_ia hk (i) rfl rfl rfl hi rfl ?_
          iterate 2 refine r_step hk rfl rfl rfl ?_
          refine r_is hk (i) rfl rfl rfl rfl hi rfl rfl ?_
          iterate 4 refine r_step hk rfl rfl rfl ?_
          refine r_ia hk (i) rfl rfl rfl hi rfl ?_
          iterate 2 refine r_step hk rfl rfl rfl ?_
          refine r_is hk (i) rfl rfl rfl rfl hi rfl rfl ?_
          refine r_step hk rfl rfl rfl ?_
          refine r_iret hk rfl trivial ?_
          refine Or.inl ⟨i, t, k, j, _, hi, ht, hk8, h1, hj, rfl, rfl, rfl, ek, ?_, ?_, rfl⟩
          first | (rw [if_pos (hq.mp h40), ← e71, ← e72]; exact gag_cg (gag_cg hag _ _ _) _ _ _) | (rw [if_neg (mt hq.mpr h40), ← e71, ← e72]; exact gag_cg (gag_cg hag _ _ _) _ _ _)
          first | rw [if_pos (hq.mp h40)] | rw [if_neg (mt hq.mpr h40)]
        · iterate 7 refine r_step hk rfl rfl rfl ?_
          refine r_ia hk (i) rfl rfl rfl hi rfl ?_
          iterate 2 refine r_step hk rfl rfl rfl ?_
          refine r_is hk (i) rfl rfl rfl rfl hi rfl rfl ?_
          iterate 4 refine r_step hk rfl rfl rfl ?_
          refine r_ia hk (i) rfl rfl rfl hi rfl ?_
          iterate 2 refine r_step hk rfl rfl rfl ?_
          refine r_is hk (i) rfl rfl rfl rfl hi rfl rfl ?_
          refine r_step hk rfl rfl rfl ?_
          refine r_iret hk rfl trivial ?_
          refine Or.inl ⟨i, t, k, j, _, hi, ht, hk8, h1, hj, rfl, rfl, rfl, ek, ?_, ?_, rfl⟩
          first | (rw [if_pos (hq.mp h40), ← e71, ← e72]; exact gag_cg (gag_cg hag _ _ _) _ _ _) | (rw [if_neg (mt hq.mpr h40), ← e71, ← e72]; exact gag_cg (gag_cg hag _ _ _) _ _ _)
          first | rw [if_pos (hq.mp h40)] | rw [if_neg (mt hq.mpr h40)]
      · refine r_step hk rfl rfl rfl ?_
        refine r_ne (fun hq9 => absurd (by decide) hq9) (fun _ => ?_)
        refine r_step hk rfl rfl rfl ?_
        refine r_iret hk rfl trivial ?_
        first | exact Or.inr ⟨fun h => hs h.1, rfl, rfl⟩ | exact Or.inr ⟨fun h => hs h.2.1, rfl, rfl⟩ | exact Or.inr ⟨fun h => hs h.2.2, rfl, rfl⟩
    · refine r_step hk rfl rfl rfl ?_
      refine r_eq (fun _ => ?_) (fun hq9 => absurd (by decide) hq9)
      refine r_step hk rfl rfl rfl ?_
      refine r_iret hk rfl trivial ?_
      first | exact Or.inr ⟨fun h => hs h.1, rfl, rfl⟩ | exact Or.inr ⟨fun h => hs h.2.1, rfl, rfl⟩ | exact Or.inr ⟨fun h => hs h.2.2, rfl, rfl⟩
  · refine r_step hk rfl rfl rfl ?_
    refine r_eq (fun _ => ?_) (fun hq9 => absurd (by decide) hq9)
    refine r_step hk rfl rfl rfl ?_
    refine r_iret hk rfl trivial ?_
    first | exact Or.inr ⟨fun h => hs h.1, rfl, rfl⟩ | exact Or.inr ⟨fun h => hs h.2.1, rfl, rfl⟩ | exact Or.inr ⟨fun h => hs h.2.2, rfl, rfl⟩
/-- what look says, in the reference's rows -/
def glk (a : Nat → Nat → Int32) (T : Nat) (ls : List (Nat × List Nat)) (t k : Nat) : Nat → Int32
  | 0 => a 64 t
  | 1 => if a 64 t = 1 ∨ a 64 t = 5 ∨ a 64 t = 6 then a 65 t else -1
  | 2 => if a 64 t = 1 then a 66 t else -1
  | 3 => a 67 t
  | _ => nI (gway (gfa a T t k) ls)
theorem m_look (hd : 2 ≤ d) {N T h : Nat} (hN : w 44 25 = nI N) (hN1 : N ≤ 100) (hT : w 44 24 = nI T) (hT1 : T < 1000) (hh : w 44 15 = nI h) (hh1 : h < 2) {ls : List (Nat × List Nat)} (hls : gmText a h ls) (hkd : ∀ t, t < N → gin (a 61 t) 8) (x z : Int32) :
    gE d 158 [.ref 44, .int x, .int z] (n, u, HP w a b r q y) (fun v S' => (∃ t k j a', t < N ∧ k < 8 ∧ j < 5 ∧ x = nI t ∧ z = nI j ∧ a 61 t = nI k ∧ gag [58, 59] a a' ∧ v = some (.int (glk a T ls t k j)) ∧ S' = (n, u, HP (gTh w) a' b r q y))
      ∨ (¬ (gin x N ∧ gin z 5) ∧ v = some (.int 0) ∧ S' = (n, u, HP (upd2 w 44 0 1) a b r q y))) := by
  have hk : gMT[158]? = some gro_158 := rfl
  refine r_in hk [some (.ref 44), some (.int x), some (.int z)] (Nat.le_of_ble_eq_true rfl) rfl ?_
  generalize hQ : (fun (v : Option Value) (S' : gS) => (∃ t k j a', t < N ∧ k < 8 ∧ j < 5 ∧ x = nI t ∧ z = nI j ∧ a 61 t = nI k ∧ gag [58, 59] a a' ∧ v = some (.int (glk a T ls t k j)) ∧ S' = (n, u, HP (gTh w) a' b r q y))
      ∨ (¬ (gin x N ∧ gin z 5) ∧ v = some (.int 0) ∧ S' = (n, u, HP (upd2 w 44 0 1) a b r q y))) = Q
  have bad : ¬ (gin x N ∧ gin z 5) → gX d 158 23 [some (.ref 44), some (.int x), some (.int z)] [.int 1, .ref 44] (n, u, HP w a b r q y) Q := by
    intro hno
    refine r_putI hk rfl rfl rfl rfl ?_
    iterate 3 refine r_step hk rfl rfl rfl ?_
    refine r_le (fun hq9 => absurd hq9 (show ¬ upd2 w 44 0 1 44 0 ≤ 0 by rw [upd2_same]; decide)) (fun _ => ?_)
    refine r_step hk rfl rfl rfl ?_
    refine r_iret hk rfl trivial ?_
    rw [← hQ]
    exact Or.inr ⟨hno, rfl, rfl⟩
  have go : ∀ t j, t < N → j < 5 → x = nI t → z = nI j → gX d 158 23 [some (.ref 44), some (.int x), some (.int z)] [.int 0, .ref 44] (n, u, HP w a b r q y) Q := by
    intro t j ht hj hx hz
    obtain ⟨k, hk8, ek⟩ := hkd t ht
    subst hx
    subst hz
    rw [← hQ]
    match j, hj with
    | 0, _ =>
      refine r_putI hk rfl rfl rfl rfl ?_
      iterate 3 refine r_step hk rfl rfl rfl ?_
      refine r_le (fun _ => ?_) (fun hq9 => absurd (show upd2 w 44 0 0 44 0 ≤ 0 by rw [upd2_same]; decide) hq9)
      refine r_step hk rfl rfl rfl ?_
      refine r_swI hk 0 rfl (by decide) (by decide) ?_
      iterate 3 refine r_step hk rfl rfl rfl ?_
      refine r_ia hk (t) rfl rfl rfl (by omega) rfl ?_
      refine r_iret hk rfl trivial ?_
      exact Or.inl ⟨t, k, 0, a, ht, hk8, by decide, rfl, rfl, ek, gag_rf, rfl, rfl⟩
    | 1, _ =>
      refine r_putI hk rfl rfl rfl rfl ?_
      iterate 3 refine r_step hk rfl rfl rfl ?_
      refine r_le (fun _ => ?_) (fun hq9 => absurd (show upd2 w 44 0 0 44 0 ≤ 0 by rw [upd2_same]; decide) hq9)
      refine r_step hk rfl rfl rfl ?_
      refine r_swI hk 1 rfl (by decide) (by decide) ?_
      iterate 3 refine r_step hk rfl rfl rfl ?_
      refine r_ia hk (t) rfl rfl rfl (by omega) rfl ?_
      iterate 2 refine r_step hk rfl rfl rfl ?_
      refine r_eq (fun h82 => ?_) (fun h82 => ?_)
      · iterate 3 refine r_step hk rfl rfl rfl ?_
        refine r_ia hk (t) rfl rfl rfl (by omega) rfl ?_
        refine r_step hk rfl rfl rfl ?_
        refine r_iret hk rfl trivial ?_
        refine Or.inl ⟨t, k, 1, a, ht, hk8, by decide, rfl, rfl, ek, gag_rf, congrArg (fun z => some (Value.int z)) ?_, rfl⟩
        first | exact (if_pos (Or.inl h82)).symm | exact (if_pos (Or.inr (Or.inl h92))).symm | exact (if_pos (Or.inr (Or.inr h103))).symm | exact (if_neg (fun hc => hc.elim h82 (fun hc => hc.elim h92 h103))).symm
      · iterate 3 refine r_step hk rfl rfl rfl ?_
        refine r_ia hk (t) rfl rfl rfl (by omega) rfl ?_
        iterate 2 refine r_step hk rfl rfl rfl ?_
        refine r_eq (fun h92 => ?_) (fun h92 => ?_)
        · iterate 3 refine r_step hk rfl rfl rfl ?_
          refine r_ia hk (t) rfl rfl rfl (by omega) rfl ?_
          refine r_step hk rfl rfl rfl ?_
          refine r_iret hk rfl trivial ?_
          refine Or.inl ⟨t, k, 1, a, ht, hk8, by decide, rfl, rfl, ek, gag_rf, congrArg (fun z => some (Value.int z)) ?_, rfl⟩
          first | exact (if_pos (Or.inl h82)).symm | exact (if_pos (Or.inr (Or.inl h92))).symm | exact (if_pos (Or.inr (Or.inr h103))).symm | exact (if_neg (fun hc => hc.elim h82 (fun hc => hc.elim h92 h103))).symm
        · iterate 3 refine r_step hk rfl rfl rfl ?_
          refine r_ia hk (t) rfl rfl rfl (by omega) rfl ?_
          iterate 2 refine r_step hk rfl rfl rfl ?_
          refine r_ne (fun h103 => ?_) (fun h103 => ?_)
          · refine r_step hk rfl rfl rfl ?_
            refine r_iret hk rfl trivial ?_
            refine Or.inl ⟨t, k, 1, a, ht, hk8, by decide, rfl, rfl, ek, gag_rf, congrArg (fun z => some (Value.int z)) ?_, rfl⟩
            first | exact (if_pos (Or.inl h82)).symm | exact (if_pos (Or.inr (Or.inl h92))).symm | exact (if_pos (Or.inr (Or.inr h103))).symm | exact (if_neg (fun hc => hc.elim h82 (fun hc => hc.elim h92 h103))).symm
          · iterate 3 refine r_step hk rfl rfl rfl ?_
            refine r_ia hk (t) rfl rfl rfl (by omega) rfl ?_
            refine r_step hk rfl rfl rfl ?_
            refine r_iret hk rfl trivial ?_
            refine Or.inl ⟨t, k, 1, a, ht, hk8, by decide, rfl, rfl, ek, gag_rf, congrArg (fun z => some (Value.int z)) ?_, rfl⟩
            first | exact (if_pos (Or.inl h82)).symm | exact (if_pos (Or.inr (Or.inl h92))).symm | exact (if_pos (Or.inr (Or.inr h103))).symm | exact (if_neg (fun hc => hc.elim h82 (fun hc => hc.elim h92 h103))).symm
    | 2, _ =>
      refine r_putI hk rfl rfl rfl rfl ?_
      iterate 3 refine r_step hk rfl rfl rfl ?_
      refine r_le (fun _ => ?_) (fun hq9 => absurd (show upd2 w 44 0 0 44 0 ≤ 0 by rw [upd2_same]; decide) hq9)
      refine r_step hk rfl rfl rfl ?_
      refine r_swI hk 2 rfl (by decide) (by decide) ?_
      iterate 3 refine r_step hk rfl rfl rfl ?_
      refine r_ia hk (t) rfl rfl rfl (by omega) rfl ?_
      iterate 2 refine r_step hk rfl rfl rfl ?_
      refine r_ne (fun h124 => ?_) (fun h124 => ?_)
      · refine r_step hk rfl rfl rfl ?_
        refine r_iret hk rfl trivial ?_
        refine Or.inl ⟨t, k, 2, a, ht, hk8, by decide, rfl, rfl, ek, gag_rf, congrArg (fun z => some (Value.int z)) ?_, rfl⟩
        first | exact (if_pos h124).symm | exact (if_neg h124).symm
      · iterate 3 refine r_step hk rfl rfl rfl ?_
        refine r_ia hk (t) rfl rfl rfl (by omega) rfl ?_
        refine r_step hk rfl rfl rfl ?_
        refine r_iret hk rfl trivial ?_
        refine Or.inl ⟨t, k, 2, a, ht, hk8, by decide, rfl, rfl, ek, gag_rf, congrArg (fun z => some (Value.int z)) ?_, rfl⟩
        first | exact (if_pos h124).symm | exact (if_neg h124).symm
    | 3, _ =>
      refine r_putI hk rfl rfl rfl rfl ?_
      iterate 3 refine r_step hk rfl rfl rfl ?_
      refine r_le (fun _ => ?_) (fun hq9 => absurd (show upd2 w 44 0 0 44 0 ≤ 0 by rw [upd2_same]; decide) hq9)
      refine r_step hk rfl rfl rfl ?_
      refine r_swI hk 3 rfl (by decide) (by decide) ?_
      iterate 3 refine r_step hk rfl rfl rfl ?_
      refine r_ia hk (t) rfl rfl rfl (by omega) rfl ?_
      refine r_iret hk rfl trivial ?_
      exact Or.inl ⟨t, k, 3, a, ht, hk8, by decide, rfl, rfl, ek, gag_rf, rfl, rfl⟩
    | 4, _ =>
      refine r_putI hk rfl rfl rfl rfl ?_
      iterate 3 refine r_step hk rfl rfl rfl ?_
      refine r_le (fun _ => ?_) (fun hq9 => absurd (show upd2 w 44 0 0 44 0 ≤ 0 by rw [upd2_same]; decide) hq9)
      refine r_step hk rfl rfl rfl ?_
      refine r_swD hk rfl (by decide) ?_
      iterate 2 refine r_step hk rfl rfl rfl ?_
      refine r_callV hk [.ref 44, .int (nI t)] [] rfl rfl rfl rfl rfl rfl rfl (by omega) (m_wayOf (w := gTh w) (by omega) hT hT1 (by omega) hk8 ek hh hh1 hls) ?_
      rintro _ _ ⟨a1, hag, rfl, rfl⟩
      refine r_iret hk rfl trivial ?_
      exact Or.inl ⟨t, k, 4, a1, ht, hk8, by decide, rfl, rfl, ek, hag, rfl, rfl⟩
  iterate 3 refine r_step hk rfl rfl rfl ?_
  refine r_callV hk [.ref 44, .int x] [.ref 44] rfl rfl rfl rfl rfl rfl rfl (by omega) (m_isThing hN hN1 x) ?_
  rintro _ _ ⟨⟨⟨t, ht, hx⟩, rfl⟩ | ⟨hs, rfl⟩, rfl⟩
  · refine r_step hk rfl rfl rfl ?_
    refine r_eq (fun hq9 => absurd hq9 (by decide)) (fun _ => ?_)
    iterate 2 refine r_step hk rfl rfl rfl ?_
    refine r_lt (fun h10 => ?_) (fun h10 => ?_)
    · refine r_step hk rfl rfl rfl ?_
      first | exact bad (fun hc => hs hc.1) | exact bad (fun hc => gin_lt h10 (by decide) hc.2) | exact bad (fun hc => gin_gt (M := 4) h15 (by decide) hc.2) | (obtain ⟨j, hj, hz⟩ := gin_of' (M := 4) h10 h15 (by decide); exact go t j ht hj hx hz)
    · iterate 3 refine r_step hk rfl rfl rfl ?_
      refine r_gt (fun h15 => ?_) (fun h15 => ?_)
      · refine r_step hk rfl rfl rfl ?_
        first | exact bad (fun hc => hs hc.1) | exact bad (fun hc => gin_lt h10 (by decide) hc.2) | exact bad (fun hc => gin_gt (M := 4) h15 (by decide) hc.2) | (obtain ⟨j, hj, hz⟩ := gin_of' (M := 4) h10 h15 (by decide); exact go t j ht hj hx hz)
      · iterate 2 refine r_step hk rfl rfl rfl ?_
        first | exact bad (fun hc => hs hc.1) | exact bad (fun hc => gin_lt h10 (by decide) hc.2) | exact bad (fun hc => gin_gt (M := 4) h15 (by decide) hc.2) | (obtain ⟨j, hj, hz⟩ := gin_of' (M := 4) h10 h15 (by decide); exact go t j ht hj hx hz)
  · refine r_step hk rfl rfl rfl ?_
    refine r_eq (fun _ => ?_) (fun hq9 => absurd (by decide) hq9)
    refine r_step hk rfl rfl rfl ?_
    first | exact bad (fun hc => hs hc.1) | exact bad (fun hc => gin_lt h10 (by decide) hc.2) | exact bad (fun hc => gin_gt (M := 4) h15 (by decide) hc.2) | (obtain ⟨j, hj, hz⟩ := gin_of' (M := 4) h10 h15 (by decide); exact go t j ht hj hx hz)
/-- what count says, in the reference's rows -/
def gcou (W : Nat → Int32) (a : Nat → Nat → Int32) (N M h : Nat) : Nat → Int32
  | 0 => W 25
  | 1 => W 24
  | 2 => nI (gcnt (fun j => a 78 j = 0) M)
  | 3 => gsum (fun j => a 78 j = 0) (a 75) M
  | 4 => nI (gcnt (fun t => a 64 t = 1) N)
  | 5 => nI (gcnt (fun t => a 64 t = 2) N)
  | 6 => nI (gcnt (fun t => a 64 t = 3) N)
  | 7 => a 50 h
  | 8 => W 2
  | _ => W 49
theorem gsum_t {p : Nat → Prop} [DecidablePred p] {f : Nat → Int32} {t : Nat} {x : Int32} (hx : x = gsum p f t) (h : p t) : x + f t = gsum p f (t + 1) := by
  simp only [gsum, if_pos h]
  rw [hx]
theorem gsum_f {p : Nat → Prop} [DecidablePred p] {f : Nat → Int32} {t : Nat} {x : Int32} (hx : x = gsum p f t) (h : ¬ p t) : x + 0 = gsum p f (t + 1) := by
  simp only [gsum, if_neg h]
  rw [hx]
theorem m_count (hd : 1 ≤ d) {N M h : Nat} (hN : w 44 25 = nI N) (hN1 : N ≤ 100) (hM : w 44 41 = nI M) (hM1 : M ≤ 200) (hh : w 44 15 = nI h) (hh1 : h < 2) (x : Int32) :
    gE d 159 [.ref 44, .int x] (n, u, HP w a b r q y) (fun v S' => S' = (n, u, HP (gTh w) a b r q y) ∧ ((∃ j, j < 10 ∧ x = nI j ∧ v = some (.int (gcou (w 44) a N M h j))) ∨ (¬ gin x 10 ∧ v = some (.int (-1))))) := by
  have hk : gMT[159]? = some gro_159 := rfl
  refine r_in hk [some (.ref 44), some (.int x), none, none, none] (Nat.le_of_ble_eq_true rfl) rfl ?_
  have sw : ∀ (L4 : Option Value), gX d 159 69 [some (.ref 44), some (.int x), some (.int (nI (gcnt (fun j => a 78 j = 0) M))), some (.int (gsum (fun j => a 78 j = 0) (a 75) M)), L4] [] (n, u, HP (gTh w) a b r q y) (fun v S' => S' = (n, u, HP (gTh w) a b r q y) ∧ ((∃ j, j < 10 ∧ x = nI j ∧ v = some (.int (gcou (w 44) a N M h j))) ∨ (¬ gin x 10 ∧ v = some (.int (-1))))) := by
    intro L4
    have hth : ∀ s : Int32, gE (d - 1) 160 [.ref 44, .int s] (n, u, HP (gTh w) a b r q y) (gre (nI (gcnt (fun t => a 64 t = s) N)) (n, u, HP (gTh w) a b r q y)) := fun s => m_thingsThat (w := gTh w) hN hN1 s
    by_cases hx : gin x 10
    · obtain ⟨j, hj, rfl⟩ := hx
      match j, hj with
      | 0, _ =>
        refine r_step hk rfl rfl rfl ?_
        refine r_swI hk 0 rfl (by decide) (by decide) ?_
        iterate 2 refine r_step hk rfl rfl rfl ?_
        refine r_iret hk rfl trivial ?_
        exact ⟨rfl, Or.inl ⟨0, by decide, rfl, rfl⟩⟩
      | 1, _ =>
        refine r_step hk rfl rfl rfl ?_
        refine r_swI hk 1 rfl (by decide) (by decide) ?_
        iterate 2 refine r_step hk rfl rfl rfl ?_
        refine r_iret hk rfl trivial ?_
        exact ⟨rfl, Or.inl ⟨1, by decide, rfl, rfl⟩⟩
      | 2, _ =>
        refine r_step hk rfl rfl rfl ?_
        refine r_swI hk 2 rfl (by decide) (by decide) ?_
        refine r_step hk rfl rfl rfl ?_
        refine r_iret hk rfl trivial ?_
        exact ⟨rfl, Or.inl ⟨2, by decide, rfl, rfl⟩⟩
      | 3, _ =>
        refine r_step hk rfl rfl rfl ?_
        refine r_swI hk 3 rfl (by decide) (by decide) ?_
        refine r_step hk rfl rfl rfl ?_
        refine r_iret hk rfl trivial ?_
        exact ⟨rfl, Or.inl ⟨3, by decide, rfl, rfl⟩⟩
      | 4, _ =>
        refine r_step hk rfl rfl rfl ?_
        refine r_swI hk 4 rfl (by decide) (by decide) ?_
        iterate 2 refine r_step hk rfl rfl rfl ?_
        refine r_callV hk [.ref 44, .int 1] [] rfl rfl rfl rfl rfl rfl rfl (by omega) (hth 1) ?_
        rintro _ _ ⟨rfl, rfl⟩
        refine r_iret hk rfl trivial ?_
        exact ⟨rfl, Or.inl ⟨4, by decide, rfl, rfl⟩⟩
      | 5, _ =>
        refine r_step hk rfl rfl rfl ?_
        refine r_swI hk 5 rfl (by decide) (by decide) ?_
        iterate 2 refine r_step hk rfl rfl rfl ?_
        refine r_callV hk [.ref 44, .int 2] [] rfl rfl rfl rfl rfl rfl rfl (by omega) (hth 2) ?_
        rintro _ _ ⟨rfl, rfl⟩
        refine r_iret hk rfl trivial ?_
        exact ⟨rfl, Or.inl ⟨5, by decide, rfl, rfl⟩⟩
      | 6, _ =>
        refine r_step hk rfl rfl rfl ?_
        refine r_swI hk 6 rfl (by decide) (by decide) ?_
        iterate 2 refine r_step hk rfl rfl rfl ?_
        refine r_callV hk [.ref 44, .int 3] [] rfl rfl rfl rfl rfl rfl rfl (by omega) (hth 3) ?_
        rintro _ _ ⟨rfl, rfl⟩
        refine r_iret hk rfl trivial ?_
        exact ⟨rfl, Or.inl ⟨6, by decide, rfl, rfl⟩⟩
      | 7, _ =>
        refine r_step hk rfl rfl rfl ?_
        refine r_swI hk 7 rfl (by decide) (by decide) ?_
        iterate 4 refine r_step hk rfl rfl rfl ?_
        refine r_ia hk (h) rfl rfl hh hh1 rfl ?_
        refine r_iret hk rfl trivial ?_
        exact ⟨rfl, Or.inl ⟨7, by decide, rfl, rfl⟩⟩
      | 8, _ =>
        refine r_step hk rfl rfl rfl ?_
        refine r_swI hk 8 rfl (by decide) (by decide) ?_
        iterate 2 refine r_step hk rfl rfl rfl ?_
        refine r_iret hk rfl trivial ?_
        exact ⟨rfl, Or.inl ⟨8, by decide, rfl, rfl⟩⟩
      | 9, _ =>
        refine r_step hk rfl rfl rfl ?_
        refine r_swI hk 9 rfl (by decide) (by decide) ?_
        iterate 2 refine r_step hk rfl rfl rfl ?_
        refine r_iret hk rfl trivial ?_
        exact ⟨rfl, Or.inl ⟨9, by decide, rfl, rfl⟩⟩
    · have hsd : x.toInt < 0 ∨ 9 < x.toInt := by
        by_cases h0 : x < 0
        · exact Or.inl (Int32.lt_iff_toInt_lt.mp h0)
        · by_cases h9 : nI 9 < x
          · exact Or.inr (Int32.lt_iff_toInt_lt.mp h9)
          · exact absurd (gin_of' (M := 9) h0 h9 (by decide)) hx
      refine r_step hk rfl rfl rfl ?_
      refine r_swD hk rfl hsd ?_
      refine r_step hk rfl rfl rfl ?_
      refine r_iret hk rfl trivial ?_
      exact ⟨rfl, Or.inr ⟨hx, rfl⟩⟩
  have loop : ∀ t, t ≤ M → ∀ x2 x3 z : Int32, x2 = nI (gcnt (fun j => a 78 j = 0) t) → x3 = gsum (fun j => a 78 j = 0) (a 75) t → z = nI t → gX d 159 12 [some (.ref 44), some (.int x), some (.int x2), some (.int x3), some (.int z)] [] (n, u, HP (gTh w) a b r q y) (fun v S' => S' = (n, u, HP (gTh w) a b r q y) ∧ ((∃ j, j < 10 ∧ x = nI j ∧ v = some (.int (gcou (w 44) a N M h j))) ∨ (¬ gin x 10 ∧ v = some (.int (-1))))) := by
    refine g_down ?_ ?_
    · intro x2 x3 z hx2 hx3 hz
      subst hx2
      subst hx3
      iterate 4 refine r_step hk rfl rfl rfl ?_
      refine r_ge (fun _ => ?_) (fun hq9 => absurd (show w 44 41 ≤ z by rw [hz, hM]; exact nI_le (Nat.le_refl _) (by omega)) hq9)
      exact sw _
    · intro t ht ih x2 x3 z hx2 hx3 hz
      by_cases hv : a 78 t = 0
      · skip
        iterate 4 refine r_step hk rfl rfl rfl ?_
        refine r_ge (fun hq9 => absurd hq9 (show ¬ w 44 41 ≤ z by rw [hz, hM]; exact nI_ge ht (by omega))) (fun _ => ?_)
        iterate 4 refine r_step hk rfl rfl rfl ?_
        refine r_za hk (t) rfl rfl hz (by omega) rfl ?_
        refine r_step hk rfl rfl rfl ?_
        refine r_eq (fun _ => ?_) (fun hq9 => absurd hv hq9)
        iterate 7 refine r_step hk rfl rfl rfl ?_
        refine r_za hk (t) rfl rfl hz (by omega) rfl ?_
        refine r_step hk rfl rfl rfl ?_
        refine r_eq (fun _ => ?_) (fun hq9 => absurd hv hq9)
        iterate 3 refine r_step hk rfl rfl rfl ?_
        refine r_ia hk (t) rfl rfl hz (by omega) rfl ?_
        iterate 4 refine r_step hk rfl rfl rfl ?_
        exact ih _ _ _ (gcnt_t (p := fun j => a 78 j = 0) hx2 hv) (gsum_t (p := fun j => a 78 j = 0) (f := a 75) hx3 hv) (nI_s hz)
      · skip
        iterate 4 refine r_step hk rfl rfl rfl ?_
        refine r_ge (fun hq9 => absurd hq9 (show ¬ w 44 41 ≤ z by rw [hz, hM]; exact nI_ge ht (by omega))) (fun _ => ?_)
        iterate 4 refine r_step hk rfl rfl rfl ?_
        refine r_za hk (t) rfl rfl hz (by omega) rfl ?_
        refine r_step hk rfl rfl rfl ?_
        refine r_eq (fun hq9 => absurd hq9 hv) (fun _ => ?_)
        iterate 8 refine r_step hk rfl rfl rfl ?_
        refine r_za hk (t) rfl rfl hz (by omega) rfl ?_
        refine r_step hk rfl rfl rfl ?_
        refine r_eq (fun hq9 => absurd hq9 hv) (fun _ => ?_)
        iterate 6 refine r_step hk rfl rfl rfl ?_
        exact ih _ _ _ (gcnt_f (p := fun j => a 78 j = 0) hx2 hv) (gsum_f (p := fun j => a 78 j = 0) (f := a 75) hx3 hv) (nI_s hz)
  iterate 2 refine r_step hk rfl rfl rfl ?_
  refine r_putI hk rfl rfl rfl rfl ?_
  iterate 6 refine r_step hk rfl rfl rfl ?_
  exact loop 0 (Nat.zero_le _) _ _ _ rfl rfl rfl
/-- the sales that hold, of a giver in a year -/
abbrev gRe (a : Nat → Nat → Int32) (g yr : Int32) : Nat → Prop := fun j => a 78 j = 0 ∧ a 60 (a 74 j).toNatClampNeg = g ∧ a 77 j / 52 = yr
theorem m_relief (hd : 1 ≤ d) {N M T : Nat} (hN1 : N ≤ 100) (hM : w 44 41 = nI M) (hM1 : M ≤ 200) (hT : w 44 24 = nI T) (hT1 : T ≤ 519) (hst : ∀ j, j < M → gin (a 74 j) N) (x z : Int32) :
    gE d 157 [.ref 44, .int x, .int z] (n, u, HP w a b r q y) (fun v S' => S' = (n, u, HP (gTh w) a b r q y) ∧ ((∃ g yr, g < 20 ∧ yr < T / 52 + 1 ∧ x = nI g ∧ z = nI yr ∧ v = some (.int (gsum (gRe a x z) (a 75) M * (if yr = T / 52 then w 44 39 else a 73 yr) / 100))) ∨ (¬ (gin x 20 ∧ gin z (T / 52 + 1)) ∧ v = some (.int (-1))))) := by
  have hk : gMT[157]? = some gro_157 := rfl
  refine r_in hk [some (.ref 44), some (.int x), some (.int z), none, none] (Nat.le_of_ble_eq_true rfl) rfl ?_
  have edv : w 44 24 / 52 = nI (T / 52) := by rw [hT]; exact pk_div (d := 52) (by omega) (by decide) (by decide)
  have loop : ∀ g yr, g < 20 → yr < T / 52 + 1 → x = nI g → z = nI yr → ∀ t, t ≤ M → ∀ x3 c : Int32, x3 = gsum (gRe a x z) (a 75) t → c = nI t → gX d 157 37 [some (.ref 44), some (.int x), some (.int z), some (.int x3), some (.int c)] [] (n, u, HP (gTh w) a b r q y) (fun v S' => S' = (n, u, HP (gTh w) a b r q y) ∧ ((∃ g yr, g < 20 ∧ yr < T / 52 + 1 ∧ x = nI g ∧ z = nI yr ∧ v = some (.int (gsum (gRe a x z) (a 75) M * (if yr = T / 52 then w 44 39 else a 73 yr) / 100))) ∨ (¬ (gin x 20 ∧ gin z (T / 52 + 1)) ∧ v = some (.int (-1))))) := by
    intro g yr hg hyr ex ez
    refine g_down ?_ ?_
    · intro x3 c hx3 hc
      subst hx3
      iterate 4 refine r_step hk rfl rfl rfl ?_
      refine r_ge (fun _ => ?_) (fun hq9 => absurd (show w 44 41 ≤ c by rw [hc, hM]; exact nI_le (Nat.le_refl _) (by omega)) hq9)
      iterate 5 refine r_step hk rfl rfl rfl ?_
      refine r_div hk rfl (by decide) ?_
      refine r_step hk rfl rfl rfl ?_
      refine r_ne (fun h115 => ?_) (fun h115 => ?_)
      · iterate 3 refine r_step hk rfl rfl rfl ?_
        refine r_ia hk (yr) rfl rfl ez (by omega) rfl ?_
        iterate 2 refine r_step hk rfl rfl rfl ?_
        refine r_div hk rfl (by decide) ?_
        refine r_iret hk rfl trivial ?_
        refine ⟨rfl, Or.inl ⟨g, yr, hg, hyr, ex, ez, congrArg (fun z => some (Value.int z)) ?_⟩⟩
        have hyy : z = w 44 24 / 52 ↔ yr = T / 52 := by rw [ez, edv]; exact nI_eq (by omega) (by omega)
        first | (rw [if_pos (hyy.mp h115)]; rfl) | (rw [if_neg (mt hyy.mpr h115)]; rfl) | rw [if_pos (hyy.mp h115)] | rw [if_neg (mt hyy.mpr h115)]
      · iterate 5 refine r_step hk rfl rfl rfl ?_
        refine r_div hk rfl (by decide) ?_
        refine r_iret hk rfl trivial ?_
        refine ⟨rfl, Or.inl ⟨g, yr, hg, hyr, ex, ez, congrArg (fun z => some (Value.int z)) ?_⟩⟩
        have hyy : z = w 44 24 / 52 ↔ yr = T / 52 := by rw [ez, edv]; exact nI_eq (by omega) (by omega)
        first | (rw [if_pos (hyy.mp h115)]; rfl) | (rw [if_neg (mt hyy.mpr h115)]; rfl) | rw [if_pos (hyy.mp h115)] | rw [if_neg (mt hyy.mpr h115)]
    · intro t ht ih x3 c hx3 hc
      obtain ⟨t2, ht2, e2⟩ := hst t ht
      have e3 : (a 74 t).toNatClampNeg = t2 := by rw [e2]; exact nI_clamp (by omega)
      iterate 4 refine r_step hk rfl rfl rfl ?_
      refine r_ge (fun hq9 => absurd hq9 (show ¬ w 44 41 ≤ c by rw [hc, hM]; exact nI_ge ht (by omega))) (fun _ => ?_)
      iterate 4 refine r_step hk rfl rfl rfl ?_
      refine r_za hk (t) rfl rfl hc (by omega) rfl ?_
      refine r_step hk rfl rfl rfl ?_
      refine r_ne (fun h54 => ?_) (fun h54 => ?_)
      · iterate 5 refine r_step hk rfl rfl rfl ?_
        exact ih _ _ (by first | exact gsum_f (p := gRe a x z) (f := a 75) hx3 (fun hq => h54 hq.1) | exact gsum_f (p := gRe a x z) (f := a 75) hx3 (fun hq => h70 (by rw [← e3]; exact hq.2.1)) | exact gsum_f (p := gRe a x z) (f := a 75) hx3 (fun hq => h84 hq.2.2) | exact gsum_t (p := gRe a x z) (f := a 75) hx3 ⟨h54, by rw [e3]; exact h70, h84⟩) (nI_s hc)
      · iterate 5 refine r_step hk rfl rfl rfl ?_
        refine r_ia hk (t) rfl rfl hc (by omega) rfl ?_
        refine r_ia hk (t2) rfl rfl e2 (by omega) rfl ?_
        iterate 2 refine r_step hk rfl rfl rfl ?_
        refine r_ne (fun h70 => ?_) (fun h70 => ?_)
        · iterate 5 refine r_step hk rfl rfl rfl ?_
          exact ih _ _ (by first | exact gsum_f (p := gRe a x z) (f := a 75) hx3 (fun hq => h54 hq.1) | exact gsum_f (p := gRe a x z) (f := a 75) hx3 (fun hq => h70 (by rw [← e3]; exact hq.2.1)) | exact gsum_f (p := gRe a x z) (f := a 75) hx3 (fun hq => h84 hq.2.2) | exact gsum_t (p := gRe a x z) (f := a 75) hx3 ⟨h54, by rw [e3]; exact h70, h84⟩) (nI_s hc)
        · iterate 3 refine r_step hk rfl rfl rfl ?_
          refine r_ia hk (t) rfl rfl hc (by omega) rfl ?_
          refine r_step hk rfl rfl rfl ?_
          refine r_div hk rfl (by decide) ?_
          iterate 2 refine r_step hk rfl rfl rfl ?_
          refine r_ne (fun h84 => ?_) (fun h84 => ?_)
          · iterate 5 refine r_step hk rfl rfl rfl ?_
            exact ih _ _ (by first | exact gsum_f (p := gRe a x z) (f := a 75) hx3 (fun hq => h54 hq.1) | exact gsum_f (p := gRe a x z) (f := a 75) hx3 (fun hq => h70 (by rw [← e3]; exact hq.2.1)) | exact gsum_f (p := gRe a x z) (f := a 75) hx3 (fun hq => h84 hq.2.2) | exact gsum_t (p := gRe a x z) (f := a 75) hx3 ⟨h54, by rw [e3]; exact h70, h84⟩) (nI_s hc)
          · iterate 3 refine r_step hk rfl rfl rfl ?_
            refine r_ia hk (t) rfl rfl hc (by omega) rfl ?_
            iterate 5 refine r_step hk rfl rfl rfl ?_
            exact ih _ _ (by first | exact gsum_f (p := gRe a x z) (f := a 75) hx3 (fun hq => h54 hq.1) | exact gsum_f (p := gRe a x z) (f := a 75) hx3 (fun hq => h70 (by rw [← e3]; exact hq.2.1)) | exact gsum_f (p := gRe a x z) (f := a 75) hx3 (fun hq => h84 hq.2.2) | exact gsum_t (p := gRe a x z) (f := a 75) hx3 ⟨h54, by rw [e3]; exact h70, h84⟩) (nI_s hc)
  iterate 2 refine r_step hk rfl rfl rfl ?_
  refine r_putI hk rfl rfl rfl rfl ?_
  iterate 3 refine r_step hk rfl rfl rfl ?_
  refine r_callS hk [.int x, .int 0, .int 19] [] rfl rfl rfl rfl rfl hd (m_within _ _ _ 19 (by decide)) ?_
  rintro _ _ ⟨⟨⟨g, hg, ex⟩, rfl⟩ | ⟨hs, rfl⟩, rfl⟩
  · refine r_step hk rfl rfl rfl ?_
    refine r_eq (fun hq9 => absurd hq9 (by decide)) (fun _ => ?_)
    iterate 5 refine r_step hk rfl rfl rfl ?_
    refine r_div hk rfl (by decide) ?_
    refine r_callS hk [.int z, .int 0, .int (w 44 24 / 52)] [] rfl rfl rfl rfl rfl hd (by rw [edv]; exact m_within _ _ _ (T / 52) (by omega)) ?_
    rintro _ _ ⟨⟨⟨yr, hyr, ez⟩, rfl⟩ | ⟨hs, rfl⟩, rfl⟩
    · refine r_step hk rfl rfl rfl ?_
      refine r_ne (fun _ => ?_) (fun hq9 => absurd hq9 (by decide))
      iterate 4 refine r_step hk rfl rfl rfl ?_
      exact loop g yr hg hyr ex ez 0 (Nat.zero_le _) _ _ rfl rfl
    · refine r_step hk rfl rfl rfl ?_
      refine r_ne (fun hq9 => absurd (by decide) hq9) (fun _ => ?_)
      refine r_step hk rfl rfl rfl ?_
      refine r_iret hk rfl trivial ?_
      first | exact ⟨rfl, Or.inr ⟨fun h => hs h.1, rfl⟩⟩ | exact ⟨rfl, Or.inr ⟨fun h => hs h.2, rfl⟩⟩
  · refine r_step hk rfl rfl rfl ?_
    refine r_eq (fun _ => ?_) (fun hq9 => absurd (by decide) hq9)
    refine r_step hk rfl rfl rfl ?_
    refine r_iret hk rfl trivial ?_
    first | exact ⟨rfl, Or.inr ⟨fun h => hs h.1, rfl⟩⟩ | exact ⟨rfl, Or.inr ⟨fun h => hs h.2, rfl⟩⟩
end GM10
