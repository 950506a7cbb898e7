-- deps: 37 38 39 40
/-! ===== the reference's turns ===== -/
def gTA (a : Nat → Nat → Int32) (A : Nat → Nat → Bool) : Prop := ∀ h, h < 10 → ∀ d, d < 12 → a 81 (12 * h + d) = if A h d = true then 1 else 0
def gTS (a : Nat → Nat → Int32) (S : Nat → Bool) : Prop := ∀ h, h < 10 → a 82 h = if S h = true then 1 else 0
theorem gTA_see {a : Nat → Nat → Int32} {A : Nat → Nat → Bool} (h : gTA a A) (i : Nat) (x : Int32) : gTA (upd2 a 82 i x) A := by
  intro h' hh d hd
  rw [upd2_row _ _ _ _ (by decide)]
  exact h h' hh d hd
theorem gTS_see {a : Nat → Nat → Int32} {S : Nat → Bool} (h : gTS a S) {i : Nat} : gTS (upd2 a 82 i 1) (gsu S i) := by
  intro h' hh
  rw [upd2_at]
  unfold gsu
  by_cases e : h' = i
  · rw [if_pos e, if_pos e, if_pos rfl]
  · rw [if_neg e, if_neg e]; exact h h' hh
theorem gTS_set {a : Nat → Nat → Int32} {S : Nat → Bool} (h : gTS a S) (i : Nat) (x : Int32) : gTS (upd2 a 81 i x) S := by
  intro h' hh
  rw [upd2_row _ _ _ _ (by decide)]
  exact h h' hh
theorem gTA_set {a : Nat → Nat → Int32} {A : Nat → Nat → Bool} (h : gTA a A) {i j : Nat} (hj : j < 12) {x : Int32} {v : Bool} (hx : x = if v = true then 1 else 0) : gTA (upd2 a 81 (12 * i + j) x) (gau A i j v) := by
  intro h' hh d hd
  rw [upd2_at]
  unfold gau
  by_cases e : h' = i ∧ d = j
  · rw [if_pos (by rw [e.1, e.2]), if_pos e]; exact hx
  · rw [if_neg (fun z => e ⟨by omega, by omega⟩), if_neg e]; exact h h' hh d hd
theorem nI_12 (s k : Nat) : 12 * nI s + nI k = nI (12 * s + k) := by
  rw [show (12 : Int32) = nI 12 from rfl, pk_mul, nI_add]
def gcan (a : Nat → Nat → Int32) : Nat → Nat → Bool := fun h d => bt (a 80 h) d
section GM11
variable {w : Nat → Nat → Int32} {b : Nat → Nat → Int64} {r : Nat → Nat → Nat} {q : Nat → Nat → Option Nat} {y : gH} {n u : Nat}
theorem m_loadOf {d : Nat} {a : Nat → Nat → Int32} {A : Nat → Nat → Bool} (hA : gTA a A) {h : Nat} (hh : h < 10) : gE d 154 [.ref 44, .int (nI h)] (n, u, HP w a b r q y) (gre (nI (gld A h)) (n, u, HP w a b r q y)) := by
  have hk : gMT[154]? = some gro_154 := rfl
  refine r_in hk [some (.ref 44), some (.int (nI h)), none, none] (Nat.le_of_ble_eq_true rfl) rfl ?_
  have loop : ∀ t, t ≤ 12 → ∀ x z : Int32, x = nI (gcnt (fun d => A h d = true) t) → z = nI t → gX d 154 4 [some (.ref 44), some (.int (nI h)), some (.int x), some (.int z)] [] (n, u, HP w a b r q y) (gre (nI (gld A h)) (n, u, HP w a b r q y)) := by
    refine g_down ?_ ?_
    · intro x z hx hz
      subst hz
      iterate 3 refine r_step hk rfl rfl rfl ?_
      refine r_ge (fun _ => ?_) (fun hq9 => absurd (by decide) hq9)
      refine r_step hk rfl rfl rfl ?_
      refine r_iret hk rfl trivial ?_
      exact ⟨congrArg (fun z => some (Value.int z)) hx, rfl⟩
    · intro t ht ih x z hx hz
      subst hz
      have hc := hA h hh t ht
      cases hq : A h t with
      | true =>
        rw [hq, if_pos rfl] at hc
        iterate 3 refine r_step hk rfl rfl rfl ?_
        refine r_ge (fun hq9 => absurd hq9 (show ¬ nI 12 ≤ nI t from nI_ge ht (by decide))) (fun _ => ?_)
        iterate 8 refine r_step hk rfl rfl rfl ?_
        refine r_za hk (12 * h + t) rfl rfl (nI_12 h t) (by omega) rfl ?_
        refine r_step hk rfl rfl rfl ?_
        refine r_eq (fun hq9 => absurd hq9 (show ¬ a 81 (12 * h + t) = 0 by rw [hc]; decide)) (fun _ => ?_)
        iterate 6 refine r_step hk rfl rfl rfl ?_
        exact ih _ _ (gcnt_t hx hq) (nI_1 t)
      | false =>
        rw [hq, if_neg (by decide)] at hc
        iterate 3 refine r_step hk rfl rfl rfl ?_
        refine r_ge (fun hq9 => absurd hq9 (show ¬ nI 12 ≤ nI t from nI_ge ht (by decide))) (fun _ => ?_)
        iterate 8 refine r_step hk rfl rfl rfl ?_
        refine r_za hk (12 * h + t) rfl rfl (nI_12 h t) (by omega) rfl ?_
        refine r_step hk rfl rfl rfl ?_
        refine r_eq (fun _ => ?_) (fun hq9 => absurd hc hq9)
        iterate 5 refine r_step hk rfl rfl rfl ?_
        exact ih _ _ (gcnt_f hx (by rw [hq]; decide)) (nI_1 t)
  iterate 4 refine r_step hk rfl rfl rfl ?_
  exact loop 0 (Nat.zero_le _) _ _ rfl rfl
def gQfd (n u : Nat) (w : Nat → Nat → Int32) (b : Nat → Nat → Int64) (r : Nat → Nat → Nat) (q : Nat → Nat → Option Nat) (y : gH) (a0 : Nat → Nat → Int32) (H bd day : Nat) (A : Nat → Nat → Bool) (S : Nat → Bool) : Option Value → gS → Prop := fun v S' => (∃ a' A' S2, gag [81, 82] a0 a' ∧ gTA a' A' ∧ gTS a' S2 ∧ gOK H (gcan a0) bd day A S A' ∧ v = some (.int 1) ∧ S' = (n, u, HP w a' b r q y)) ∨ (∃ a' S2, gag [81, 82] a0 a' ∧ gTA a' A ∧ gTS a' S2 ∧ gNw H (gcan a0) bd A S S2 ∧ gcl5 H (gcan a0) A S2 day ∧ v = some (.int 0) ∧ S' = (n, u, HP w a' b r q y))
def gQgw (n u : Nat) (w : Nat → Nat → Int32) (b : Nat → Nat → Int64) (r : Nat → Nat → Nat) (q : Nat → Nat → Option Nat) (y : gH) (a0 : Nat → Nat → Int32) (H bd h : Nat) (A : Nat → Nat → Bool) (S : Nat → Bool) : Option Value → gS → Prop := fun v S' => (∃ a' A' S2, gag [81, 82] a0 a' ∧ gTA a' A' ∧ gTS a' S2 ∧ gGvw H (gcan a0) bd h A S A' ∧ v = some (.int 1) ∧ S' = (n, u, HP w a' b r q y)) ∨ (∃ a' S2, gag [81, 82] a0 a' ∧ gTA a' A ∧ gTS a' S2 ∧ gNw H (gcan a0) bd A S S2 ∧ (∀ d, d < 12 → A h d = true → gcl5 H (gcan a0) A S2 d) ∧ v = some (.int 0) ∧ S' = (n, u, HP w a' b r q y))
def gPfd (n u : Nat) (w : Nat → Nat → Int32) (b : Nat → Nat → Int64) (r : Nat → Nat → Nat) (q : Nat → Nat → Option Nat) (y : gH) (a0 : Nat → Nat → Int32) (H bd m : Nat) : Prop := ∀ (d day : Nat) (a : Nat → Nat → Int32) (A : Nat → Nat → Bool) (S : Nat → Bool), gun S ≤ m → 2 * m + 3 ≤ d → day < 12 → gag [81, 82] a0 a → gTA a A → gTS a S → gVa H (gcan a0) bd A → gE d 153 [.ref 44, .int (nI day)] (n, u, HP w a b r q y) (gQfd n u w b r q y a0 H bd day A S)
def gPgw (n u : Nat) (w : Nat → Nat → Int32) (b : Nat → Nat → Int64) (r : Nat → Nat → Nat) (q : Nat → Nat → Option Nat) (y : gH) (a0 : Nat → Nat → Int32) (H bd m : Nat) : Prop := ∀ (d h : Nat) (a : Nat → Nat → Int32) (A : Nat → Nat → Bool) (S : Nat → Bool), gun S ≤ m → 2 * m + 4 ≤ d → h < H → S h = true → gag [81, 82] a0 a → gTA a A → gTS a S → gVa H (gcan a0) bd A → gE d 155 [.ref 44, .int (nI h)] (n, u, HP w a b r q y) (gQgw n u w b r q y a0 H bd h A S)
theorem m_givesWay {a0 : Nat → Nat → Int32} {H bd m : Nat} (hH10 : H ≤ 10) (HP1 : gPfd n u w b r q y a0 H bd m) : gPgw n u w b r q y a0 H bd m := by
  intro d h a A S hm hd hh hS hag hA hTS hv
  have hk : gMT[155]? = some gro_155 := rfl
  refine r_in hk [some (.ref 44), some (.int (nI h)), none] (Nat.le_of_ble_eq_true rfl) rfl ?_
  have loop : ∀ t, t ≤ 12 → ∀ (a1 : Nat → Nat → Int32) (S1 : Nat → Bool) (z : Int32), z = nI t → gag [81, 82] a0 a1 → gTA a1 A → gTS a1 S1 → gNw H (gcan a0) bd A S S1 → (∀ d, d < t → A h d = true → gcl5 H (gcan a0) A S1 d) → gX d 155 2 [some (.ref 44), some (.int (nI h)), some (.int z)] [] (n, u, HP w a1 b r q y) (gQgw n u w b r q y a0 H bd h A S) := by
    refine g_down ?_ ?_
    · intro a1 S1 z hz hag1 hA1 hS1 hnw hcl
      subst hz
      iterate 3 refine r_step hk rfl rfl rfl ?_
      refine r_ge (fun _ => ?_) (fun hq9 => absurd (by decide) hq9)
      refine r_step hk rfl rfl rfl ?_
      refine r_iret hk rfl (Or.inl rfl) ?_
      exact Or.inr ⟨a1, S1, hag1, hA1, hS1, hnw, hcl, rfl, rfl⟩
    · intro t ht ih a1 S1 z hz hag1 hA1 hS1 hnw hcl
      subst hz
      have hc := hA1 h (by omega) t ht
      cases hq : A h t with
      | false =>
        rw [hq, if_neg (by decide)] at hc
        iterate 3 refine r_step hk rfl rfl rfl ?_
        refine r_ge (fun hq9 => absurd hq9 (show ¬ nI 12 ≤ nI t from nI_ge ht (by decide))) (fun _ => ?_)
        iterate 7 refine r_step hk rfl rfl rfl ?_
        refine r_za hk (12 * h + t) rfl rfl (nI_12 h t) (by omega) rfl ?_
        refine r_step hk rfl rfl rfl ?_
        refine r_eq (fun _ => ?_) (fun hq9 => absurd hc hq9)
        iterate 2 refine r_step hk rfl rfl rfl ?_
        exact ih a1 S1 _ (nI_1 t) hag1 hA1 hS1 hnw (fun d hd hAd => by rcases Nat.lt_or_ge d t with hlt | hge; exact hcl d hlt hAd; have e : d = t := (by omega); subst e; rw [hq] at hAd; exact absurd hAd (by decide))
      | true =>
        rw [hq, if_pos rfl] at hc
        iterate 3 refine r_step hk rfl rfl rfl ?_
        refine r_ge (fun hq9 => absurd hq9 (show ¬ nI 12 ≤ nI t from nI_ge ht (by decide))) (fun _ => ?_)
        iterate 7 refine r_step hk rfl rfl rfl ?_
        refine r_za hk (12 * h + t) rfl rfl (nI_12 h t) (by omega) rfl ?_
        refine r_step hk rfl rfl rfl ?_
        refine r_eq (fun hq9 => absurd hq9 (show ¬ a1 81 (12 * h + t) = 0 by rw [hc]; decide)) (fun _ => ?_)
        iterate 2 refine r_step hk rfl rfl rfl ?_
        refine r_callV hk [.ref 44, .int (nI t)] [] rfl rfl rfl rfl rfl rfl rfl (by omega) (HP1 (d - 1) t a1 A S1 (Nat.le_trans (gun_le hnw.1) hm) (by omega) ht hag1 hA1 hS1 hv) ?_
        rintro _ _ (⟨a2, A2, S2, hag2, hA2, hS2, hok2, rfl, rfl⟩ | ⟨a2, S2, hag2, hA2, hS2, hnw2, hcl2, rfl, rfl⟩)
        · refine r_step hk rfl rfl rfl ?_
          refine r_eq (fun hq9 => absurd hq9 (by decide)) (fun _ => ?_)
          iterate 8 refine r_step hk rfl rfl rfl ?_
          refine r_zs hk (12 * h + t) rfl rfl rfl (nI_12 h t) (by omega) rfl rfl (Or.inl rfl) ?_
          refine r_step hk rfl rfl rfl ?_
          refine r_iret hk rfl (Or.inr rfl) ?_
          obtain ⟨g1, g2, g3, g4, g5⟩ := gGvw_of hok2 (hv.2 h hh) hh ht hq (hnw.1 h hS)
          exact Or.inl ⟨_, gau A2 h t false, S2, gag_up hag2 (by decide), gTA_set hA2 ht (by decide), gTS_set hS2 _ _, ⟨g1, g2, fun h' hh' hne hs' => g3 h' hh' hne (hnw.1 h' hs'), g4, g5⟩, rfl, rfl⟩
        · refine r_step hk rfl rfl rfl ?_
          refine r_eq (fun _ => ?_) (fun hq9 => absurd (by decide) hq9)
          iterate 2 refine r_step hk rfl rfl rfl ?_
          exact ih a2 S2 _ (nI_1 t) hag2 hA2 hS2 (gNw_tr hnw hnw2) (fun d hd hAd => by rcases Nat.lt_or_ge d t with hlt | hge; exact gcl5_up (hcl d hlt hAd) hnw2.1; have e : d = t := (by omega); subst e; exact hcl2)
  iterate 2 refine r_step hk rfl rfl rfl ?_
  exact loop 0 (Nat.zero_le _) a S _ rfl hag hA hTS gNw_rf (fun d hd => absurd hd (by omega))
theorem m_finds_of {a0 : Nat → Nat → Int32} {H bd m : Nat} (hH : w 44 49 = nI H) (hH10 : H ≤ 10) (hb : w 44 53 = nI bd) (hb12 : bd ≤ 12) (HG : ∀ m', m' + 1 ≤ m → gPgw n u w b r q y a0 H bd m') : gPfd n u w b r q y a0 H bd m := by
  intro d day a A S hm hd hday hag hA hTS hv
  have hk : gMT[153]? = some gro_153 := rfl
  refine r_in hk [some (.ref 44), some (.int (nI day)), none] (Nat.le_of_ble_eq_true rfl) rfl ?_
  have loop : ∀ t, t ≤ H → ∀ (a1 : Nat → Nat → Int32) (S1 : Nat → Bool) (z : Int32), z = nI t → gag [81, 82] a0 a1 → gTA a1 A → gTS a1 S1 → gNw H (gcan a0) bd A S S1 → (∀ h, h < t → gcan a0 h day = true → A h day = false → S1 h = true) → gX d 153 2 [some (.ref 44), some (.int (nI day)), some (.int z)] [] (n, u, HP w a1 b r q y) (gQfd n u w b r q y a0 H bd day A S) := by
    refine g_down ?_ ?_
    · intro a1 S1 z hz hag1 hA1 hS1 hnw hcl
      subst hz
      iterate 4 refine r_step hk rfl rfl rfl ?_
      refine r_ge (fun _ => ?_) (fun hq9 => absurd (show w 44 49 ≤ nI H by rw [hH]; exact nI_le (Nat.le_refl _) (by omega)) hq9)
      refine r_step hk rfl rfl rfl ?_
      refine r_iret hk rfl (Or.inl rfl) ?_
      exact Or.inr ⟨a1, S1, hag1, hA1, hS1, hnw, hcl, rfl, rfl⟩
    · intro t ht ih a1 S1 z hz hag1 hA1 hS1 hnw hcl
      subst hz
      have h7 : ¬ w 44 49 ≤ nI t := by rw [hH]; exact nI_ge ht (by omega)
      have e80 : a1 80 = a0 80 := hag1 80 (by decide)
      have hbt : ((a1 80 t >>> (nI day &&& 31)) &&& 1 = 1) ↔ gcan a0 t day = true := by rw [e80]; exact bt_test1 (by omega)
      have hcA := hA1 t (by omega) day hday
      have hcS := hS1 t (by omega)
      -- go on
      have skip : (gcan a0 t day = true → A t day = false → S1 t = true) → gX d 153 2 [some (.ref 44), some (.int (nI day)), some (.int (nI t + 1))] [] (n, u, HP w a1 b r q y) (gQfd n u w b r q y a0 H bd day A S) := by
        intro hno
        refine ih a1 S1 _ (nI_1 t) hag1 hA1 hS1 hnw (fun h hh h1 h2 => ?_)
        by_cases e : h = t
        · subst e; exact hno h1 h2
        · exact hcl h (by omega) h1 h2
      by_cases hS : S1 t = true
      · rw [if_pos hS] at hcS
        iterate 4 refine r_step hk rfl rfl rfl ?_
        refine r_ge (fun hq9 => absurd hq9 h7) (fun _ => ?_)
        iterate 3 refine r_step hk rfl rfl rfl ?_
        refine r_ia hk (t) rfl rfl rfl (by omega) rfl ?_
        iterate 6 refine r_step hk rfl rfl rfl ?_
        refine r_ne (fun h21 => ?_) (fun h21 => ?_)
        · iterate 2 refine r_step hk rfl rfl rfl ?_
          exact skip (fun _ _ => hS)
        · iterate 7 refine r_step hk rfl rfl rfl ?_
          refine r_za hk (12 * t + day) rfl rfl (nI_12 t day) (by omega) rfl ?_
          refine r_step hk rfl rfl rfl ?_
          refine r_ne (fun h35 => ?_) (fun h35 => ?_)
          · iterate 2 refine r_step hk rfl rfl rfl ?_
            exact skip (fun _ _ => hS)
          · iterate 3 refine r_step hk rfl rfl rfl ?_
            refine r_za hk (t) rfl rfl rfl (by omega) rfl ?_
            refine r_step hk rfl rfl rfl ?_
            refine r_ne (fun _ => ?_) (fun hq9 => absurd hq9 (show ¬ a1 82 t = 0 by rw [hcS]; decide))
            iterate 2 refine r_step hk rfl rfl rfl ?_
            exact skip (fun _ _ => hS)
      · rw [if_neg hS] at hcS
        have hun := gun_s (h := t) (S := S1) (by omega) hS
        have hun2 := gun_le hnw.1
        cases hAt : A t day with
        | true =>
          rw [hAt, if_pos rfl] at hcA
          iterate 4 refine r_step hk rfl rfl rfl ?_
          refine r_ge (fun hq9 => absurd hq9 h7) (fun _ => ?_)
          iterate 3 refine r_step hk rfl rfl rfl ?_
          refine r_ia hk (t) rfl rfl rfl (by omega) rfl ?_
          iterate 6 refine r_step hk rfl rfl rfl ?_
          refine r_ne (fun h21 => ?_) (fun h21 => ?_)
          · iterate 2 refine r_step hk rfl rfl rfl ?_
            exact skip (fun _ h2 => by rw [hAt] at h2; exact absurd h2 (by decide))
          · iterate 7 refine r_step hk rfl rfl rfl ?_
            refine r_za hk (12 * t + day) rfl rfl (nI_12 t day) (by omega) rfl ?_
            refine r_step hk rfl rfl rfl ?_
            refine r_ne (fun _ => ?_) (fun hq9 => absurd hq9 (show ¬ a1 81 (12 * t + day) = 0 by rw [hcA]; decide))
            iterate 2 refine r_step hk rfl rfl rfl ?_
            exact skip (fun _ h2 => by rw [hAt] at h2; exact absurd h2 (by decide))
        | false =>
          rw [hAt, if_neg (by decide)] at hcA
          have hA2 : gTA (upd2 a1 82 t 1) A := gTA_see hA1 t 1
          have hS2 : gTS (upd2 a1 82 t 1) (gsu S1 t) := gTS_see hS1
          have hag2 : gag [81, 82] a0 (upd2 a1 82 t 1) := gag_up hag1 (by decide)
          have hld : gld A t ≤ bd := hv.2 t ht
          have hnS : ¬ S t = true := fun z => hS (hnw.1 t z)
          have hlb : nI (gld A t) < w 44 53 ↔ gld A t < bd := by rw [hb]; exact nI_ltI (by omega) (by omega)
          by_cases hcn : gcan a0 t day = true
          · skip
            iterate 4 refine r_step hk rfl rfl rfl ?_
            refine r_ge (fun hq9 => absurd hq9 h7) (fun _ => ?_)
            iterate 3 refine r_step hk rfl rfl rfl ?_
            refine r_ia hk (t) rfl rfl rfl (by omega) rfl ?_
            iterate 6 refine r_step hk rfl rfl rfl ?_
            refine r_ne (fun hq9 => absurd (hbt.mpr hcn) hq9) (fun _ => ?_)
            iterate 7 refine r_step hk rfl rfl rfl ?_
            refine r_za hk (12 * t + day) rfl rfl (nI_12 t day) (by omega) rfl ?_
            refine r_step hk rfl rfl rfl ?_
            refine r_ne (fun hq9 => absurd hcA hq9) (fun _ => ?_)
            iterate 3 refine r_step hk rfl rfl rfl ?_
            refine r_za hk (t) rfl rfl rfl (by omega) rfl ?_
            refine r_step hk rfl rfl rfl ?_
            refine r_ne (fun hq9 => absurd hcS hq9) (fun _ => ?_)
            iterate 4 refine r_step hk rfl rfl rfl ?_
            refine r_zs hk (t) rfl rfl rfl rfl (by omega) rfl rfl (Or.inr rfl) ?_
            iterate 2 refine r_step hk rfl rfl rfl ?_
            refine r_callV hk [.ref 44, .int (nI t)] [] rfl rfl rfl rfl rfl rfl rfl (by omega) (m_loadOf hA2 (by omega)) ?_
            rintro _ _ ⟨rfl, rfl⟩
            iterate 3 refine r_step hk rfl rfl rfl ?_
            refine r_lt (fun h63 => ?_) (fun h63 => ?_)
            · iterate 8 refine r_step hk rfl rfl rfl ?_
              refine r_zs hk (12 * t + day) rfl rfl rfl (nI_12 t day) (by omega) rfl rfl (Or.inr rfl) ?_
              refine r_step hk rfl rfl rfl ?_
              refine r_iret hk rfl (Or.inr rfl) ?_
              first | exact Or.inl ⟨_, gau A t day true, gsu S1 t, gag_up hag2 (by decide), gTA_set hA2 hday rfl, gTS_set hS2 _ _, gOK_now hv ht hday hcn hAt hnS (hlb.mp h63), rfl, rfl⟩ | exact Or.inl ⟨_, gau A3 t day true, S3, gag_up hag3 (by decide), gTA_set hA3 hday rfl, gTS_set hS3 _ _, gOK_gw hok3 (fun i hi => gsu_s (hnw.1 i hi)) ht hday hcn hAt hnS, rfl, rfl⟩
            · iterate 2 refine r_step hk rfl rfl rfl ?_
              refine r_callV hk [.ref 44, .int (nI t)] [] rfl rfl rfl rfl rfl rfl rfl (by omega) (HG (gun S1 - 1) (by omega) (d - 1) t (upd2 a1 82 t 1) A (gsu S1 t) (by omega) (by omega) ht gsu_m hag2 hA2 hS2 hv) ?_
              rintro _ _ (⟨a3, A3, S3, hag3, hA3, hS3, hok3, rfl, rfl⟩ | ⟨a3, S3, hag3, hA3, hS3, hnw3, hcl3, rfl, rfl⟩)
              · refine r_step hk rfl rfl rfl ?_
                refine r_eq (fun hq9 => absurd hq9 (by decide)) (fun _ => ?_)
                iterate 8 refine r_step hk rfl rfl rfl ?_
                refine r_zs hk (12 * t + day) rfl rfl rfl (nI_12 t day) (by omega) rfl rfl (Or.inr rfl) ?_
                refine r_step hk rfl rfl rfl ?_
                refine r_iret hk rfl (Or.inr rfl) ?_
                first | exact Or.inl ⟨_, gau A t day true, gsu S1 t, gag_up hag2 (by decide), gTA_set hA2 hday rfl, gTS_set hS2 _ _, gOK_now hv ht hday hcn hAt hnS (hlb.mp h63), rfl, rfl⟩ | exact Or.inl ⟨_, gau A3 t day true, S3, gag_up hag3 (by decide), gTA_set hA3 hday rfl, gTS_set hS3 _ _, gOK_gw hok3 (fun i hi => gsu_s (hnw.1 i hi)) ht hday hcn hAt hnS, rfl, rfl⟩
              · refine r_step hk rfl rfl rfl ?_
                refine r_eq (fun _ => ?_) (fun hq9 => absurd (by decide) hq9)
                iterate 2 refine r_step hk rfl rfl rfl ?_
                refine ih a3 S3 _ (nI_1 t) hag3 hA3 hS3 ?_ (fun h hh h1 h2 => ?_)
                (refine gNw_tr hnw ⟨fun i hi => hnw3.1 i (gsu_s hi), fun h hh hs hn => ?_⟩; by_cases e : h = t; (subst e; exact ⟨by have := mt hlb.mpr h63; omega, hcl3⟩); exact hnw3.2 h hh hs (fun z => hn (by unfold gsu at z; rw [if_neg e] at z; exact z)))
                by_cases e : h = t
                (subst e; exact hnw3.1 h gsu_m)
                exact hnw3.1 h (gsu_s (hcl h (by omega) h1 h2))
          · skip
            iterate 4 refine r_step hk rfl rfl rfl ?_
            refine r_ge (fun hq9 => absurd hq9 h7) (fun _ => ?_)
            iterate 3 refine r_step hk rfl rfl rfl ?_
            refine r_ia hk (t) rfl rfl rfl (by omega) rfl ?_
            iterate 6 refine r_step hk rfl rfl rfl ?_
            refine r_ne (fun _ => ?_) (fun hq9 => absurd hq9 (fun z => hcn (hbt.mp z)))
            iterate 2 refine r_step hk rfl rfl rfl ?_
            exact skip (fun h1 _ => absurd h1 hcn)
  iterate 2 refine r_step hk rfl rfl rfl ?_
  exact loop 0 (Nat.zero_le _) a S _ rfl hag hA hTS gNw_rf (fun h hh => absurd hh (by omega))
theorem m_finds {a0 : Nat → Nat → Int32} {H bd : Nat} (hH : w 44 49 = nI H) (hH10 : H ≤ 10) (hb : w 44 53 = nI bd) (hb12 : bd ≤ 12) : ∀ m, gPfd n u w b r q y a0 H bd m := by
  intro m
  induction m using Nat.strongRecOn with
  | _ m ih => exact m_finds_of hH hH10 hb hb12 (fun m' hm' => m_givesWay hH10 (ih m' (by omega)))
def gdm (x : Int32) : Nat → Nat := fun d => if bt x d = true then 2 else 0
def gpla (x : Int32) (k : Nat) : Nat → Nat := fun d => if bt x d = true then (if k ≤ 2 * d then 0 else if k = 2 * d + 1 then 1 else 2) else 0
theorem gpla_s {x : Int32} {k : Nat} (h : bt x (k / 2) = true) (d : Nat) : gpla x (k + 1) d = gpla x k d + if d = k / 2 then 1 else 0 := by
  unfold gpla
  by_cases e : d = k / 2
  · subst e
    simp only [h, if_true]
    by_cases e2 : k % 2 = 0
    · rw [if_neg (by omega), if_pos (by omega), if_pos (by omega)]
    · rw [if_neg (by omega), if_neg (by omega), if_neg (by omega), if_pos (by omega)]
  · rw [if_neg e, Nat.add_zero]
    split
    · by_cases e3 : k ≤ 2 * d
      · rw [if_pos (by omega), if_pos e3]
      · rw [if_neg (by omega), if_neg (by omega), if_neg (by omega), if_neg (by omega)]
    · rfl
theorem gpla_n {x : Int32} {k : Nat} (h : ¬ bt x (k / 2) = true) (d : Nat) : gpla x (k + 1) d = gpla x k d := by
  unfold gpla
  by_cases e : d = k / 2
  · subst e; rw [if_neg h, if_neg h]
  · split
    · by_cases e3 : k ≤ 2 * d
      · rw [if_pos (by omega), if_pos e3]
      · rw [if_neg (by omega), if_neg (by omega), if_neg (by omega), if_neg (by omega)]
    · rfl
theorem gpla_le {x : Int32} (k d : Nat) : gpla x k d ≤ gdm x d := by
  unfold gpla gdm
  split
  · split
    · omega
    · split <;> omega
  · omega
theorem gpla_24 {x : Int32} {d : Nat} (hd : d < 12) : gpla x 24 d = gdm x d := by
  unfold gpla gdm
  split
  · rw [if_neg (by omega), if_neg (by omega)]
  · rfl
theorem gpla_0 {x : Int32} (d : Nat) : gpla x 0 d = 0 := by
  unfold gpla
  split
  · rw [if_pos (by omega)]
  · rfl
theorem gcov_0 (H d : Nat) : gcov (fun _ _ => false) H d = 0 := by
  unfold gcov
  rw [gcnt_nsum]
  exact nsum_0 H
theorem gld_0 (h : Nat) : gld (fun _ _ => false) h = 0 := by
  unfold gld
  rw [gcnt_nsum]
  exact nsum_0 12
theorem m_canBe {d : Nat} {a0 : Nat → Nat → Int32} {H bd : Nat} (hd : 40 ≤ d) (hH : w 44 49 = nI H) (hH10 : H ≤ 10) (hb : w 44 53 = nI bd) (hb12 : bd ≤ 12) (x : Int32) : gE d 152 [.ref 44, .int x] (n, u, HP w a0 b r q y) (fun v S' => ((gFe H (gcan a0) bd (gdm x) ∧ v = some (.int 1)) ∨ (¬ gFe H (gcan a0) bd (gdm x) ∧ v = some (.int 0))) ∧ ∃ a', gag [81, 82] a0 a' ∧ S' = (n, u, HP w a' b r q y)) := by
  have hk : gMT[152]? = some gro_152 := rfl
  refine r_inQ hk [some (.ref 44), some (.int x), none, none] (Nat.le_of_ble_eq_true rfl) rfl ?_
  intro Q hQ
  have loop : ∀ t, t ≤ 24 → ∀ (a1 : Nat → Nat → Int32) (A : Nat → Nat → Bool) (z : Int32) (l3 : Option Value), z = nI t → gag [81, 82] a0 a1 → gTA a1 A → gVa H (gcan a0) bd A → (∀ d, d < 12 → gcov A H d = gpla x t d) → gX d 152 23 [some (.ref 44), some (.int x), some (.int z), l3] [] (n, u, HP w a1 b r q y) Q := by
    refine g_down ?_ ?_
    · intro a1 A z l3 hz hag hA hv hcv
      subst hz
      iterate 3 refine r_step hk rfl rfl rfl ?_
      refine r_ge (fun _ => ?_) (fun hq9 => absurd (by decide) hq9)
      refine r_step hk rfl rfl rfl ?_
      refine r_iret hk rfl (Or.inr rfl) ?_
      exact hQ _ _ ⟨Or.inl ⟨⟨A, hv.1, hv.2, fun d hd => by rw [hcv d hd, gpla_24 hd]; exact Nat.le_refl _⟩, rfl⟩, a1, hag, rfl⟩
    · intro t ht ih a1 A z l3 hz hag hA hv hcv
      subst hz
      have edv : nI t / 2 = nI (t / 2) := pk_div (d := 2) (by omega) (by decide) (by decide)
      have hbt : ((x >>> (nI (t / 2) &&& 31)) &&& 1 = 1) ↔ bt x (t / 2) = true := bt_test1 (by omega)
      have h26 : ¬ nI 24 ≤ nI t := nI_ge ht (by decide)
      by_cases hbx : bt x (t / 2) = true
      · have fin : ∀ (a2 : Nat → Nat → Int32) (l3 : Option Value), gag [81, 82] a0 a2 → gTA a2 A → gTS a2 (fun _ => false) → gX d 152 61 [some (.ref 44), some (.int x), some (.int (nI t)), l3] [] (n, u, HP w a2 b r q y) Q := by
          intro a2 l3 hag2 hA2 hS2
          iterate 3 refine r_step hk rfl rfl rfl ?_
          refine r_div hk rfl (by decide) ?_
          refine r_callV hk [.ref 44, .int (nI t / 2)] [] rfl rfl rfl rfl rfl rfl rfl (by omega) (by rw [edv]; exact m_finds hH hH10 hb hb12 10 (d - 1) (t / 2) a2 A (fun _ => false) (gcnt_le _ 10) (by omega) (by omega) hag2 hA2 hS2 hv) ?_
          rintro _ _ (⟨a3, A3, S3, hag3, hA3, hS3, hok3, rfl, rfl⟩ | ⟨a3, S3, hag3, hA3, hS3, hnw3, hcl3, rfl, rfl⟩)
          · refine r_step hk rfl rfl rfl ?_
            refine r_ne (fun _ => ?_) (fun hq9 => absurd hq9 (by decide))
            iterate 2 refine r_step hk rfl rfl rfl ?_
            exact ih a3 A3 _ _ (nI_1 t) hag3 hA3 hok3.1 (fun d hd => by rw [hok3.2.1 d hd, hcv d hd, gpla_s hbx])
          · refine r_step hk rfl rfl rfl ?_
            refine r_ne (fun hq9 => absurd (by decide) hq9) (fun _ => ?_)
            refine r_step hk rfl rfl rfl ?_
            refine r_iret hk rfl (Or.inl rfl) ?_
            exact hQ _ _ ⟨Or.inr ⟨gno1 (by omega) hnw3 hcl3 (fun d hd => by rw [hcv d hd, ← gpla_s hbx]; exact gpla_le _ _), rfl⟩, a3, hag3, rfl⟩
        have clr : ∀ k, k ≤ 10 → ∀ (a2 : Nat → Nat → Int32) (z : Int32), z = nI k → gag [81, 82] a0 a2 → gTA a2 A → (∀ i, i < k → a2 82 i = 0) → gX d 152 42 [some (.ref 44), some (.int x), some (.int (nI t)), some (.int z)] [] (n, u, HP w a2 b r q y) Q := by
          refine g_down ?_ ?_
          · intro a2 z hz hag2 hA2 h0
            subst hz
            iterate 3 refine r_step hk rfl rfl rfl ?_
            refine r_ge (fun _ => ?_) (fun hq9 => absurd (by decide) hq9)
            exact fin a2 _ hag2 hA2 (fun h hh => by rw [h0 h hh]; rfl)
          · intro k hk10 ih2 a2 z hz hag2 hA2 h0
            subst hz
            iterate 3 refine r_step hk rfl rfl rfl ?_
            refine r_ge (fun hq9 => absurd hq9 (show ¬ nI 10 ≤ nI k from nI_ge hk10 (by decide))) (fun _ => ?_)
            iterate 4 refine r_step hk rfl rfl rfl ?_
            refine r_zs hk (k) rfl rfl rfl rfl hk10 rfl rfl (Or.inl rfl) ?_
            iterate 2 refine r_step hk rfl rfl rfl ?_
            exact ih2 _ _ (nI_1 k) (gag_up hag2 (by decide)) (gTA_see hA2 k 0) (fun i hi => by rw [upd2_at]; split; rfl; exact h0 i (by omega))
        iterate 3 refine r_step hk rfl rfl rfl ?_
        refine r_ge (fun hq9 => absurd hq9 h26) (fun _ => ?_)
        iterate 3 refine r_step hk rfl rfl rfl ?_
        refine r_div hk rfl (by decide) ?_
        iterate 5 refine r_step hk rfl rfl rfl ?_
        refine r_ne (fun hq9 => absurd (show (x >>> (nI t / 2 &&& 31)) &&& 1 = 1 by rw [edv]; exact hbt.mpr hbx) hq9) (fun _ => ?_)
        iterate 2 refine r_step hk rfl rfl rfl ?_
        exact clr 0 (Nat.zero_le _) a1 _ rfl hag hA (fun i hi => absurd hi (by omega))
      · skip
        iterate 3 refine r_step hk rfl rfl rfl ?_
        refine r_ge (fun hq9 => absurd hq9 h26) (fun _ => ?_)
        iterate 3 refine r_step hk rfl rfl rfl ?_
        refine r_div hk rfl (by decide) ?_
        iterate 5 refine r_step hk rfl rfl rfl ?_
        refine r_ne (fun _ => ?_) (fun hq9 => absurd hq9 (show ¬ (x >>> (nI t / 2 &&& 31)) &&& 1 = 1 by rw [edv]; exact mt hbt.mp hbx))
        iterate 2 refine r_step hk rfl rfl rfl ?_
        exact ih a1 A _ _ (nI_1 t) hag hA hv (fun d hd => by rw [hcv d hd, gpla_n hbx])
  have clr0 : ∀ k, k ≤ 120 → ∀ (a2 : Nat → Nat → Int32) (z : Int32) (l3 : Option Value), z = nI k → gag [81, 82] a0 a2 → (∀ i, i < k → a2 81 i = 0) → gX d 152 2 [some (.ref 44), some (.int x), some (.int z), l3] [] (n, u, HP w a2 b r q y) Q := by
    refine g_down ?_ ?_
    · intro a2 z l3 hz hag2 h0
      subst hz
      iterate 3 refine r_step hk rfl rfl rfl ?_
      refine r_ge (fun _ => ?_) (fun hq9 => absurd (by decide) hq9)
      iterate 2 refine r_step hk rfl rfl rfl ?_
      exact loop 0 (Nat.zero_le _) a2 (fun _ _ => false) _ _ rfl hag2 (fun h hh d hd => by rw [h0 _ (by omega)]; rfl) ⟨fun _ _ _ _ hf => absurd hf Bool.false_ne_true, fun h _ => by rw [gld_0]; exact Nat.zero_le _⟩ (fun d _ => by rw [gcov_0, gpla_0])
    · intro k hk10 ih2 a2 z l3 hz hag2 h0
      subst hz
      iterate 3 refine r_step hk rfl rfl rfl ?_
      refine r_ge (fun hq9 => absurd hq9 (show ¬ nI 120 ≤ nI k from nI_ge hk10 (by decide))) (fun _ => ?_)
      iterate 4 refine r_step hk rfl rfl rfl ?_
      refine r_zs hk (k) rfl rfl rfl rfl hk10 rfl rfl (Or.inl rfl) ?_
      iterate 2 refine r_step hk rfl rfl rfl ?_
      exact ih2 _ _ _ (nI_1 k) (gag_up hag2 (by decide)) (fun i hi => by rw [upd2_at]; split; rfl; exact h0 i (by omega))
  iterate 2 refine r_step hk rfl rfl rfl ?_
  exact clr0 0 (Nat.zero_le _) a0 _ _ rfl gag_rf (fun i hi => absurd hi (by omega))
/-- the least load, as both find it -/
def gLe (H : Nat) (can : Nat → Nat → Bool) (x : Int32) (v : Option Value) : Prop := (∃ bd, bd ≤ 12 ∧ gin x 4096 ∧ gFe H can bd (gdm x) ∧ (∀ b', b' < bd → ¬ gFe H can b' (gdm x)) ∧ v = some (.int (nI bd))) ∨ ((gin x 4096 → ∀ b', b' ≤ 12 → ¬ gFe H can b' (gdm x)) ∧ v = some (.int (-1)))
theorem gLe_eq {H : Nat} {can : Nat → Nat → Bool} {x : Int32} {v v' : Option Value} (h : gLe H can x v) (h' : gLe H can x v') : v = v' := by
  rcases h with ⟨b1, h1, h2, h3, h4, rfl⟩ | ⟨h1, rfl⟩
  · rcases h' with ⟨b2, k1, k2, k3, k4, rfl⟩ | ⟨k1, rfl⟩
    · rcases Nat.lt_trichotomy b1 b2 with hl | hl | hl
      · exact absurd h3 (k4 b1 hl)
      · rw [hl]
      · exact absurd k3 (h4 b2 hl)
    · exact absurd h3 (k1 h2 b1 h1)
  · rcases h' with ⟨b2, k1, k2, k3, k4, rfl⟩ | ⟨k1, rfl⟩
    · exact absurd k3 (h1 k2 b2 k1)
    · rfl
theorem m_least {d : Nat} {a0 : Nat → Nat → Int32} {H : Nat} (hd : 41 ≤ d) (hH : w 44 49 = nI H) (hH10 : H ≤ 10) (x : Int32) : gE d 151 [.ref 44, .int x] (n, u, HP w a0 b r q y) (fun v S' => gLe H (gcan a0) x v ∧ ∃ e a', gag [81, 82] a0 a' ∧ S' = (n, u, HP (upd2 (gTh w) 44 53 e) a' b r q y)) := by
  have hk : gMT[151]? = some gro_151 := rfl
  refine r_inQ hk [some (.ref 44), some (.int x)] (Nat.le_of_ble_eq_true rfl) rfl ?_
  intro Q hQ
  have loop : gin x 4096 → ∀ t, t ≤ 13 → ∀ (a1 : Nat → Nat → Int32), gag [81, 82] a0 a1 → (∀ b', b' < t → ¬ gFe H (gcan a0) b' (gdm x)) → gX d 151 23 [some (.ref 44), some (.int x)] [] (n, u, HP (upd2 (gTh w) 44 53 (nI t)) a1 b r q y) Q := by
    intro hx
    refine g_down ?_ ?_
    · intro a1 hag hno
      iterate 4 refine r_step hk rfl rfl rfl ?_
      refine r_gt (fun _ => ?_) (fun hq9 => absurd (show (12 : Int32) < upd2 (gTh w) 44 53 (nI 13) 44 53 by rw [upd2_same]; decide) hq9)
      refine r_step hk rfl rfl rfl ?_
      refine r_iret hk rfl trivial ?_
      exact hQ _ _ ⟨Or.inr ⟨fun _ b' hb' => hno b' (by omega), rfl⟩, _, a1, hag, rfl⟩
    · intro t ht ih a1 hag hno
      have e80 : gcan a1 = gcan a0 := by unfold gcan; rw [hag 80 (by decide)]
      iterate 4 refine r_step hk rfl rfl rfl ?_
      refine r_gt (fun hq9 => absurd hq9 (show ¬ (12 : Int32) < upd2 (gTh w) 44 53 (nI t) 44 53 by rw [upd2_same]; exact nI_nlt (a := 12) (b := t) (by omega) (by decide))) (fun _ => ?_)
      iterate 2 refine r_step hk rfl rfl rfl ?_
      refine r_callV hk [.ref 44, .int x] [] rfl rfl rfl rfl rfl rfl rfl (by omega) (m_canBe (w := upd2 (gTh w) 44 53 (nI t)) (by omega) hH hH10 rfl (by omega) x) ?_
      rw [e80]
      rintro _ _ ⟨⟨hf, rfl⟩ | ⟨hf, rfl⟩, a2, hag2, rfl⟩
      · refine r_step hk rfl rfl rfl ?_
        refine r_eq (fun hq9 => absurd hq9 (by decide)) (fun _ => ?_)
        iterate 2 refine r_step hk rfl rfl rfl ?_
        refine r_iret hk rfl trivial ?_
        exact hQ _ _ ⟨Or.inl ⟨t, by omega, hx, hf, hno, rfl⟩, _, a2, gag_tr hag hag2, rfl⟩
      · refine r_step hk rfl rfl rfl ?_
        refine r_eq (fun _ => ?_) (fun hq9 => absurd (by decide) hq9)
        iterate 5 refine r_step hk rfl rfl rfl ?_
        refine r_putI hk rfl rfl rfl rfl ?_
        refine r_step hk rfl rfl rfl ?_
        rw [upd2_2, show upd2 (gTh w) 44 53 (nI t) 44 53 + 1 = nI (t + 1) by rw [upd2_same]; exact nI_1 t]
        exact ih a2 (gag_tr hag hag2) (fun b' hb' => by by_cases e : b' = t; (subst e; exact hf); exact hno b' (by omega))
  iterate 2 refine r_step hk rfl rfl rfl ?_
  refine r_putI hk rfl rfl rfl rfl ?_
  iterate 2 refine r_step hk rfl rfl rfl ?_
  refine r_lt (fun h6 => ?_) (fun h6 => ?_)
  · refine r_step hk rfl rfl rfl ?_
    refine r_iret hk rfl trivial ?_
    first | exact hQ _ _ ⟨Or.inr ⟨fun hc => absurd hc (gin_lt h6 (by decide)), rfl⟩, w 44 53, a0, gag_rf, by rw [upd2_id (f := gTh w) (j := 44) (s := 53) (x := w 44 53) rfl]⟩ | exact hQ _ _ ⟨Or.inr ⟨fun hc => absurd hc (gin_gt (M := 4095) (Int32.not_le.mp h13) (by decide)), rfl⟩, w 44 53, a0, gag_rf, by rw [upd2_id (f := gTh w) (j := 44) (s := 53) (x := w 44 53) rfl]⟩
  · iterate 3 refine r_step hk rfl rfl rfl ?_
    refine r_le (fun h13 => ?_) (fun h13 => ?_)
    · iterate 2 refine r_step hk rfl rfl rfl ?_
      refine r_putI hk rfl rfl rfl rfl ?_
      exact loop (gin_of' (M := 4095) h6 (Int32.not_lt.mpr h13) (by decide)) 0 (Nat.zero_le _) a0 gag_rf (fun b' hb' => absurd hb' (by omega))
    · refine r_step hk rfl rfl rfl ?_
      refine r_iret hk rfl trivial ?_
      first | exact hQ _ _ ⟨Or.inr ⟨fun hc => absurd hc (gin_lt h6 (by decide)), rfl⟩, w 44 53, a0, gag_rf, by rw [upd2_id (f := gTh w) (j := 44) (s := 53) (x := w 44 53) rfl]⟩ | exact hQ _ _ ⟨Or.inr ⟨fun hc => absurd hc (gin_gt (M := 4095) (Int32.not_le.mp h13) (by decide)), rfl⟩, w 44 53, a0, gag_rf, by rw [upd2_id (f := gTh w) (j := 44) (s := 53) (x := w 44 53) rfl]⟩
end GM11
