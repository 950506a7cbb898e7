-- deps: 37 38 39 40 41 50 51
/-! ===== the class: turns ===== -/
def ush (x y : Int32) : Int32 := (x.toUInt32 >>> (y.toUInt32 &&& Int32.toUInt32 31)).toInt32
def bc1 (v : Int32) : Int32 := v - (ush v 1 &&& 1431655765)
def bc2 (v : Int32) : Int32 := (v &&& 858993459) + (ush v 2 &&& 858993459)
def bc3 (v : Int32) : Int32 := (v + ush v 4) &&& 252645135
def bc4 (v : Int32) : Int32 := v + ush v 8
def bc5 (v : Int32) : Int32 := v + ush v 16
def bcf (v : Int32) : Int32 := bc5 (bc4 (bc3 (bc2 (bc1 v)))) &&& 63
theorem bc_all2 : ∀ i, i < 64 → ∀ j, j < 64 → bcf (nI (64 * i + j)) = nI (gcnt (fun d => (64 * i + j).testBit d = true) 12) := by decide +kernel
theorem bc_all {k : Nat} (h : k < 4096) : bcf (nI k) = nI (gcnt (fun d => k.testBit d = true) 12) := by
  have := bc_all2 (k / 64) (by omega) (k % 64) (by omega)
  rw [show 64 * (k / 64) + k % 64 = k by omega] at this
  exact this
/-- the class's turns: helper h has the days of A -/
def cTA (a : Nat → Nat → Int32) (A : Nat → Nat → Bool) : Prop := ∀ h, h < 10 → ∃ k, k < 4096 ∧ a 43 h = nI k ∧ ∀ d, d < 12 → k.testBit d = A h d
def cTS (w : Nat → Nat → Int32) (S : Nat → Bool) : Prop := ∀ h, h < 10 → bt (w 41 3) h = S h
def cTD (w : Nat → Nat → Int32) (E : Nat → Bool) : Prop := ∀ d, d < 12 → bt (w 41 4) d = E d
def cf41 (w w' : Nat → Nat → Int32) : Prop := (∀ j, j ≠ 41 → w' j = w j) ∧ ∀ s, s ∉ [3, 4] → w' 41 s = w 41 s
theorem cf41_rf {w : Nat → Nat → Int32} : cf41 w w := ⟨fun _ _ => rfl, fun _ _ => rfl⟩
theorem cf41_tr {w w1 w2 : Nat → Nat → Int32} (h : cf41 w w1) (k : cf41 w1 w2) : cf41 w w2 := ⟨fun j hj => (k.1 j hj).trans (h.1 j hj), fun s hs => (k.2 s hs).trans (h.2 s hs)⟩
theorem cf41_up {w w1 : Nat → Nat → Int32} (h : cf41 w w1) {s : Nat} (hs : s ∈ [3, 4]) (v : Int32) : cf41 w (upd2 w1 41 s v) := ⟨fun j hj => by rw [upd2_row _ _ _ _ hj]; exact h.1 j hj, fun t ht => by
    have hne : t ≠ s := fun e => ht (e ▸ hs)
    rw [upd2_col _ _ _ _ hne]; exact h.2 t ht⟩
def gcanC (a : Nat → Nat → Int32) : Nat → Nat → Bool := fun h d => bt (a 42 h) d
theorem nI_or {k d : Nat} (hk : k < 4096) (hd : d < 12) : nI k ||| 1 <<< (nI d &&& 31) = nI (k ||| 2 ^ d) := by
  refine b_ext (fun i hi => ?_)
  rw [bt_set (by omega) hi, bt_nI hi, bt_nI hi, Nat.testBit_or, Nat.testBit_two_pow]
  by_cases e : i = d
  · subst e; simp
  · have e2 : ¬ d = i := fun z => e z.symm
    simp [e, e2]
theorem or_lt {k d : Nat} (hk : k < 4096) (hd : d < 12) : k ||| 2 ^ d < 4096 := by
  refine Nat.or_lt_two_pow (n := 12) hk ?_
  exact Nat.pow_lt_pow_right (by decide) hd
theorem nI_clr {k d : Nat} (hk : k < 4096) (hd : d < 12) (h : k.testBit d = true) : nI k &&& (1 <<< (nI d &&& 31) ^^^ -1) = nI (k ^^^ 2 ^ d) := by
  refine b_ext (fun i hi => ?_)
  rw [bt_clr (by omega) hi, bt_nI hi, bt_nI hi, Nat.testBit_xor, Nat.testBit_two_pow]
  by_cases e : i = d
  · subst e; simp [h]
  · have e2 : ¬ d = i := fun z => e z.symm
    simp [e, e2]
theorem xor_lt {k d : Nat} (hk : k < 4096) (hd : d < 12) : k ^^^ 2 ^ d < 4096 := by
  refine Nat.xor_lt_two_pow (n := 12) hk ?_
  exact Nat.pow_lt_pow_right (by decide) hd
theorem cTA_set {a : Nat → Nat → Int32} {A : Nat → Nat → Bool} (h : cTA a A) {i day : Nat} (hi : i < 10) (hd : day < 12) : cTA (upd2 a 43 i (a 43 i ||| 1 <<< (nI day &&& 31))) (gau A i day true) := by
  intro g hg
  obtain ⟨k, hk, e1, e2⟩ := h g hg
  by_cases e : g = i
  · subst e
    refine ⟨k ||| 2 ^ day, or_lt hk hd, ?_, fun d hd' => ?_⟩
    · rw [upd2_same, e1, nI_or hk hd]
    · rw [Nat.testBit_or, Nat.testBit_two_pow, e2 d hd']
      show _ = if g = g ∧ d = day then true else A g d
      by_cases e3 : d = day
      · subst e3; simp
      · have e4 : ¬ day = d := fun z => e3 z.symm
        simp [e3, e4]
  · refine ⟨k, hk, ?_, fun d hd' => ?_⟩
    · rw [upd2_at, if_neg e]; exact e1
    · rw [e2 d hd']
      show _ = if g = i ∧ d = day then true else A g d
      rw [if_neg (fun z => e z.1)]
theorem cTA_clr {a : Nat → Nat → Int32} {A : Nat → Nat → Bool} (h : cTA a A) {i day : Nat} (hi : i < 10) (hd : day < 12) (h1 : A i day = true) : cTA (upd2 a 43 i (a 43 i &&& (1 <<< (nI day &&& 31) ^^^ -1))) (gau A i day false) := by
  intro g hg
  obtain ⟨k, hk, e1, e2⟩ := h g hg
  by_cases e : g = i
  · subst e
    have hb : k.testBit day = true := by rw [e2 day hd]; exact h1
    refine ⟨k ^^^ 2 ^ day, xor_lt hk hd, ?_, fun d hd' => ?_⟩
    · rw [upd2_same, e1, nI_clr hk hd hb]
    · rw [Nat.testBit_xor, Nat.testBit_two_pow, e2 d hd']
      show _ = if g = g ∧ d = day then false else A g d
      by_cases e3 : d = day
      · subst e3; simp [h1]
      · have e4 : ¬ day = d := fun z => e3 z.symm
        simp [e3, e4]
  · refine ⟨k, hk, ?_, fun d hd' => ?_⟩
    · rw [upd2_at, if_neg e]; exact e1
    · rw [e2 d hd']
      show _ = if g = i ∧ d = day then false else A g d
      rw [if_neg (fun z => e z.1)]
theorem cTS_see {w : Nat → Nat → Int32} {S : Nat → Bool} (h : cTS w S) {i : Nat} (hi : i < 10) : cTS (upd2 w 41 3 (w 41 3 ||| 1 <<< (nI i &&& 31))) (gsu S i) := by
  intro g hg
  rw [upd2_same, bt_set (by omega) (by omega), h g hg]
  unfold gsu
  by_cases e : g = i <;> simp [e]
theorem cTD_see {w : Nat → Nat → Int32} {E : Nat → Bool} (h : cTD w E) {i : Nat} (hi : i < 12) : cTD (upd2 w 41 4 (w 41 4 ||| 1 <<< (nI i &&& 31))) (gsu E i) := by
  intro g hg
  rw [upd2_same, bt_set (by omega) (by omega), h g hg]
  unfold gsu
  by_cases e : g = i <;> simp [e]
theorem cTS_4 {w : Nat → Nat → Int32} {S : Nat → Bool} (h : cTS w S) (v : Int32) : cTS (upd2 w 41 4 v) S := fun g hg => by rw [upd2_col _ _ _ _ (by decide)]; exact h g hg
theorem cTD_3 {w : Nat → Nat → Int32} {E : Nat → Bool} (h : cTD w E) (v : Int32) : cTD (upd2 w 41 3 v) E := fun g hg => by rw [upd2_col _ _ _ _ (by decide)]; exact h g hg
/-- what a failed search has tried: new days are closed, new helpers are full and their days tried -/
def cNw (H : Nat) (can : Nat → Nat → Bool) (b : Nat) (A : Nat → Nat → Bool) (S E S' E' : Nat → Bool) : Prop := (∀ i, S i = true → S' i = true) ∧ (∀ i, E i = true → E' i = true) ∧ (∀ d, d < 12 → E' d = true → ¬ E d = true → gcl5 H can A S' d) ∧ ∀ h, h < H → S' h = true → ¬ S h = true → b ≤ gld A h ∧ ∀ d, d < 12 → A h d = true → E' d = true
theorem cNw_rf {H : Nat} {can : Nat → Nat → Bool} {b : Nat} {A : Nat → Nat → Bool} {S E : Nat → Bool} : cNw H can b A S E S E := ⟨fun _ h => h, fun _ h => h, fun _ _ h1 h2 => absurd h1 h2, fun _ _ h1 h2 => absurd h1 h2⟩
theorem cNw_tr {H : Nat} {can : Nat → Nat → Bool} {b : Nat} {A : Nat → Nat → Bool} {S E S1 E1 S2 E2 : Nat → Bool} (h1 : cNw H can b A S E S1 E1) (h2 : cNw H can b A S1 E1 S2 E2) : cNw H can b A S E S2 E2 := by
  refine ⟨fun i h => h2.1 i (h1.1 i h), fun i h => h2.2.1 i (h1.2.1 i h), fun d hd he hn => ?_, fun h hh hs hn => ?_⟩
  · by_cases e : E1 d = true
    · exact gcl5_up (h1.2.2.1 d hd e hn) h2.1
    · exact h2.2.2.1 d hd he e
  · by_cases e : S1 h = true
    · obtain ⟨q1, q2⟩ := h1.2.2.2 h hh e hn
      exact ⟨q1, fun d hd hA => h2.2.1 d (q2 d hd hA)⟩
    · exact h2.2.2.2 h hh hs e
theorem cno1 {H b day : Nat} {can A : Nat → Nat → Bool} {S E : Nat → Bool} {dm : Nat → Nat} (hday : day < 12) (hn : cNw H can b A (fun _ => false) (fun _ => false) S E) (hc : E day = true) (hdm : ∀ d, d < 12 → gcov A H d + (if d = day then 1 else 0) ≤ dm d) : ¬ gFe H can b dm := by
  rintro ⟨B, hB1, hB2, hB3⟩
  refine gcut (H := H) (b := b) (day := day) (can := can) (A := A) (B := B) (S := S) (D := E) ?_ ?_ hc hday hB1 hB2 (fun d hd _ => Nat.le_trans (hdm d hd) (hB3 d hd))
  · intro d hd hD h hh hcn h0
    exact hn.2.2.1 d hd hD (by simp) h hh hcn h0
  · intro h hh hS
    exact hn.2.2.2 h hh hS (by simp)
def gdn (E : Nat → Bool) : Nat := gcnt (fun d => E d = true) 12
theorem gdn_s {E : Nat → Bool} {d : Nat} (hd : d < 12) (h : ¬ E d = true) : gdn (gsu E d) = gdn E + 1 := by
  refine gcnt_ins (k := d) gsu_m h 12 hd (fun i _ hi => ?_)
  show (if i = d then true else E i) = true ↔ _
  rw [if_neg hi]
theorem gdn_le {E E' : Nat → Bool} (h : ∀ i, E i = true → E' i = true) : gdn E ≤ gdn E' := gcnt_mono 12 (fun i _ hi => h i hi)
section GC8
variable {w a : Nat → Nat → Int32} {b : Nat → Nat → Int64} {r : Nat → Nat → Nat} {q : Nat → Nat → Option Nat} {y : gH} {n u : Nat}
theorem c_bitCount (d : Nat) (S : gS) {k : Nat} (hk4 : k < 4096) : gE d 161 [.int (nI k)] S (gre (nI (gcnt (fun d => k.testBit d = true) 12)) S) := by
  have hk : gMT[161]? = some gro_161 := rfl
  refine r_in hk [some (.int (nI k))] (Nat.le_of_ble_eq_true rfl) rfl ?_
  iterate 41 refine r_step hk rfl rfl rfl ?_
  refine r_iret hk rfl trivial ?_
  exact ⟨congrArg (fun z => some (Value.int z)) (bc_all hk4), rfl⟩
def cQfd (n u : Nat) (b : Nat → Nat → Int64) (r : Nat → Nat → Nat) (q : Nat → Nat → Option Nat) (y : gH) (w0 a0 : Nat → Nat → Int32) (H bd day : Nat) (A : Nat → Nat → Bool) (S E : Nat → Bool) : Option Value → gS → Prop := fun v S' => (∃ w' a' A', cf41 w0 w' ∧ gag [43] a0 a' ∧ cTA a' A' ∧ gOK H (gcanC a0) bd day A S A' ∧ v = some (.int 1) ∧ S' = (n, u, HP w' a' b r q y)) ∨ (∃ w' a' S2 E2, cf41 w0 w' ∧ gag [43] a0 a' ∧ cTA a' A ∧ cTS w' S2 ∧ cTD w' E2 ∧ cNw H (gcanC a0) bd A S E S2 E2 ∧ E2 day = true ∧ v = some (.int 0) ∧ S' = (n, u, HP w' a' b r q y))
def cQho (n u : Nat) (b : Nat → Nat → Int64) (r : Nat → Nat → Nat) (q : Nat → Nat → Option Nat) (y : gH) (w0 a0 : Nat → Nat → Int32) (H bd h : Nat) (A : Nat → Nat → Bool) (S E : Nat → Bool) : Option Value → gS → Prop := fun v S' => (∃ w' a' A', cf41 w0 w' ∧ gag [43] a0 a' ∧ cTA a' A' ∧ gGvw H (gcanC a0) bd h A S A' ∧ v = some (.int 1) ∧ S' = (n, u, HP w' a' b r q y)) ∨ (∃ w' a' S2 E2, cf41 w0 w' ∧ gag [43] a0 a' ∧ cTA a' A ∧ cTS w' S2 ∧ cTD w' E2 ∧ cNw H (gcanC a0) bd A S E S2 E2 ∧ (∀ d, d < 12 → A h d = true → E2 d = true) ∧ v = some (.int 0) ∧ S' = (n, u, HP w' a' b r q y))
def cPfd (n u : Nat) (b : Nat → Nat → Int64) (r : Nat → Nat → Nat) (q : Nat → Nat → Option Nat) (y : gH) (w0 a0 : Nat → Nat → Int32) (H bd m : Nat) : Prop := ∀ (d day dep : Nat) (w a : Nat → Nat → Int32) (A : Nat → Nat → Bool) (S E : Nat → Bool), gun S ≤ m → 2 * m + 3 ≤ d → day < 12 → dep ≤ gdn E → cf41 w0 w → gag [43] a0 a → cTA a A → cTS w S → cTD w E → gVa H (gcanC a0) bd A → gE d 83 [.ref 41, .int (nI day), .int (nI bd), .int (nI dep)] (n, u, HP w a b r q y) (cQfd n u b r q y w0 a0 H bd day A S E)
def cPho (n u : Nat) (b : Nat → Nat → Int64) (r : Nat → Nat → Nat) (q : Nat → Nat → Option Nat) (y : gH) (w0 a0 : Nat → Nat → Int32) (H bd m : Nat) : Prop := ∀ (d h dep : Nat) (w a : Nat → Nat → Int32) (A : Nat → Nat → Bool) (S E : Nat → Bool), gun S ≤ m → 2 * m + 4 ≤ d → h < H → S h = true → dep + 1 ≤ gdn E → cf41 w0 w → gag [43] a0 a → cTA a A → cTS w S → cTD w E → gVa H (gcanC a0) bd A → gE d 84 [.ref 41, .int (nI h), .int (nI bd), .int (nI dep)] (n, u, HP w a b r q y) (cQho n u b r q y w0 a0 H bd h A S E)
theorem c_handOver {w0 a0 : Nat → Nat → Int32} {H bd m : Nat} (hH10 : H ≤ 10) (HP1 : cPfd n u b r q y w0 a0 H bd m) : cPho n u b r q y w0 a0 H bd m := by
  intro d h dep w a A S E hm hd hh hS hdep hfw hag hA hTS hTD hv
  have hk : gMT[84]? = some gro_84 := rfl
  refine r_in hk [some (.ref 41), some (.int (nI h)), some (.int (nI bd)), some (.int (nI dep)), none] (Nat.le_of_ble_eq_true rfl) rfl ?_
  have loop : ∀ t, t ≤ 12 → ∀ (w1 a1 : Nat → Nat → Int32) (S1 E1 : Nat → Bool) (v : Int32), v = nI t → cf41 w0 w1 → gag [43] a0 a1 → cTA a1 A → cTS w1 S1 → cTD w1 E1 → cNw H (gcanC a0) bd A S E S1 E1 → (∀ d, d < t → A h d = true → E1 d = true) → gX d 84 3 [some (.ref 41), some (.int (nI h)), some (.int (nI bd)), some (.int (nI dep)), some (.int v)] [] (n, u, HP w1 a1 b r q y) (cQho n u b r q y w0 a0 H bd h A S E) := by
    refine g_down ?_ ?_
    · intro w1 a1 S1 E1 v hv0 hfw1 hag1 hA1 hS1 hD1 hnw hcl
      subst hv0
      iterate 3 refine r_step hk rfl rfl rfl ?_
      refine r_ge (fun _ => ?_) (fun hq9 => absurd (by decide) hq9)
      refine r_step hk rfl rfl rfl ?_
      refine r_iret hk rfl (Or.inl rfl) ?_
      exact Or.inr ⟨w1, a1, S1, E1, hfw1, hag1, hA1, hS1, hD1, hnw, hcl, rfl, rfl⟩
    · intro t ht ih w1 a1 S1 E1 v hv0 hfw1 hag1 hA1 hS1 hD1 hnw hcl
      subst hv0
      obtain ⟨k, hk4, ek, eb⟩ := hA1 h (by omega)
      have hbt : ((a1 43 h >>> (nI t &&& 31)) &&& 1 = 0) ↔ A h t = false := by rw [bt_test0 (by omega), ek, bt_nI (by omega), eb t ht]
      have h7 : ¬ (12 : Int32) ≤ nI t := nI_ge (b := 12) ht (by decide)
      cases hq : A h t with
      | false =>
        iterate 3 refine r_step hk rfl rfl rfl ?_
        refine r_ge (fun hq9 => absurd hq9 h7) (fun _ => ?_)
        iterate 3 refine r_step hk rfl rfl rfl ?_
        refine r_ia hk (h) rfl rfl rfl (by omega) rfl ?_
        iterate 5 refine r_step hk rfl rfl rfl ?_
        refine r_eq (fun _ => ?_) (fun hq9 => absurd (hbt.mpr hq) hq9)
        iterate 2 refine r_step hk rfl rfl rfl ?_
        exact ih w1 a1 S1 E1 _ (nI_1 t) hfw1 hag1 hA1 hS1 hD1 hnw (fun d hd hAd => by rcases Nat.lt_or_ge d t with hlt | hge; exact hcl d hlt hAd; have e : d = t := (by omega); subst e; rw [hq] at hAd; exact absurd hAd (by decide))
      | true =>
        have e30 : nI dep + 1 = nI (dep + 1) := nI_1 dep
        iterate 3 refine r_step hk rfl rfl rfl ?_
        refine r_ge (fun hq9 => absurd hq9 h7) (fun _ => ?_)
        iterate 3 refine r_step hk rfl rfl rfl ?_
        refine r_ia hk (h) rfl rfl rfl (by omega) rfl ?_
        iterate 5 refine r_step hk rfl rfl rfl ?_
        refine r_eq (fun hq9 => absurd hq9 (fun z => by rw [hbt.mp z] at hq; exact absurd hq (by decide))) (fun _ => ?_)
        iterate 6 refine r_step hk rfl rfl rfl ?_
        refine r_callV hk [.ref 41, .int (nI t), .int (nI bd), .int (nI dep + 1)] [] rfl rfl rfl rfl rfl rfl rfl (by omega) (by rw [e30]; exact HP1 (d - 1) t (dep + 1) w1 a1 A S1 E1 (Nat.le_trans (gun_le hnw.1) hm) (by omega) ht (Nat.le_trans hdep (gdn_le hnw.2.1)) hfw1 hag1 hA1 hS1 hD1 hv) ?_
        rintro _ _ (⟨w2, a2, A2, hfw2, hag2, hA2, hok2, rfl, rfl⟩ | ⟨w2, a2, S2, E2, hfw2, hag2, hA2, hS2, hD2, hnw2, hE2, rfl, rfl⟩)
        · refine r_step hk rfl rfl rfl ?_
          refine r_eq (fun hq9 => absurd hq9 (by decide)) (fun _ => ?_)
          iterate 4 refine r_step hk rfl rfl rfl ?_
          refine r_ia hk (h) rfl rfl rfl (by omega) rfl ?_
          iterate 6 refine r_step hk rfl rfl rfl ?_
          refine r_is hk (h) rfl rfl rfl rfl (by omega) rfl rfl ?_
          refine r_step hk rfl rfl rfl ?_
          refine r_iret hk rfl (Or.inr rfl) ?_
          obtain ⟨g1, g2, g3, g4, g5⟩ := gGvw_of hok2 (hv.2 h hh) hh ht hq (hnw.1 h hS)
          have hr2 : A2 h t = true := by rw [hok2.2.2 h hh (hnw.1 h hS)]; exact hq
          exact Or.inl ⟨w2, _, gau A2 h t false, hfw2, gag_up hag2 (by decide), cTA_clr hA2 (by omega) ht hr2, ⟨g1, g2, fun h' hh' hne hs' => g3 h' hh' hne (hnw.1 h' hs'), g4, g5⟩, rfl, rfl⟩
        · refine r_step hk rfl rfl rfl ?_
          refine r_eq (fun _ => ?_) (fun hq9 => absurd (by decide) hq9)
          iterate 2 refine r_step hk rfl rfl rfl ?_
          exact ih w2 a2 S2 E2 _ (nI_1 t) hfw2 hag2 hA2 hS2 hD2 (cNw_tr hnw hnw2) (fun d hd hAd => by rcases Nat.lt_or_ge d t with hlt | hge; exact hnw2.2.1 d (hcl d hlt hAd); have e : d = t := (by omega); subst e; exact hE2)
  iterate 2 refine r_step hk rfl rfl rfl ?_
  exact loop 0 (Nat.zero_le _) w a S E _ rfl hfw hag hA hTS hTD cNw_rf (fun d hd => absurd hd (by omega))
theorem c_findHelper_of {w0 a0 : Nat → Nat → Int32} {H bd m : Nat} (hH : w0 41 2 = nI H) (hH10 : H ≤ 10) (hb12 : bd ≤ 12) (HG : ∀ m', m' + 1 ≤ m → cPho n u b r q y w0 a0 H bd m') : cPfd n u b r q y w0 a0 H bd m := by
  intro d day dep w a A S E hm hd hday hdep hfw hag hA hTS hTD hv
  have hk : gMT[83]? = some gro_83 := rfl
  refine r_in hk [some (.ref 41), some (.int (nI day)), some (.int (nI bd)), some (.int (nI dep)), none, none] (Nat.le_of_ble_eq_true rfl) rfl ?_
  have hd12 : gdn E ≤ 12 := gcnt_le _ 12
  have h3 : ¬ (12 : Int32) < nI dep := nI_nlt (a := 12) (by omega) (by decide)
  have hbE : ((w 41 4 >>> (nI day &&& 31)) &&& 1 = 0) ↔ ¬ E day = true := by rw [bt_test0 (by omega), hTD day hday]; simp
  by_cases hE : E day = true
  · skip
    iterate 3 refine r_step hk rfl rfl rfl ?_
    refine r_gt (fun hq9 => absurd hq9 h3) (fun _ => ?_)
    iterate 7 refine r_step hk rfl rfl rfl ?_
    refine r_eq (fun hq9 => absurd hq9 (fun z => (hbE.mp z) hE)) (fun _ => ?_)
    refine r_step hk rfl rfl rfl ?_
    refine r_iret hk rfl (Or.inl rfl) ?_
    exact Or.inr ⟨w, a, S, E, hfw, hag, hA, hTS, hTD, cNw_rf, hE, rfl, rfl⟩
  · have hdn := gdn_s hday hE
    have loop : ∀ t, t ≤ H → ∀ (w1 a1 : Nat → Nat → Int32) (S1 E1 : Nat → Bool) (v : Int32) (l5 : Option Value), v = nI t → cf41 w0 w1 → gag [43] a0 a1 → cTA a1 A → cTS w1 S1 → cTD w1 E1 → cNw H (gcanC a0) bd A S (gsu E day) S1 E1 → (∀ h, h < t → gcanC a0 h day = true → A h day = false → S1 h = true) → gX d 83 34 [some (.ref 41), some (.int (nI day)), some (.int (nI bd)), some (.int (nI dep)), some (.int v), l5] [] (n, u, HP w1 a1 b r q y) (cQfd n u b r q y w0 a0 H bd day A S E) := by
      refine g_down ?_ ?_
      · intro w1 a1 S1 E1 v l5 hv0 hfw1 hag1 hA1 hS1 hD1 hnw hcl
        subst hv0
        have h02 : w1 41 2 = nI H := (hfw1.2 2 (by decide)).trans hH
        iterate 4 refine r_step hk rfl rfl rfl ?_
        refine r_ge (fun _ => ?_) (fun hq9 => absurd (show w1 41 2 ≤ nI H by rw [h02]; exact nI_le (Nat.le_refl _) (by omega)) hq9)
        refine r_step hk rfl rfl rfl ?_
        refine r_iret hk rfl (Or.inl rfl) ?_
        refine Or.inr ⟨w1, a1, S1, E1, hfw1, hag1, hA1, hS1, hD1, ⟨hnw.1, fun i hi => hnw.2.1 i (gsu_s hi), fun d hd he hn => ?_, hnw.2.2.2⟩, hnw.2.1 day gsu_m, rfl, rfl⟩
        by_cases e : d = day
        (subst e; exact hcl)
        exact hnw.2.2.1 d hd he (fun z => hn (by unfold gsu at z; rw [if_neg e] at z; exact z))
      · intro t ht ih w1 a1 S1 E1 v l5 hv0 hfw1 hag1 hA1 hS1 hD1 hnw hcl
        subst hv0
        have h02 : w1 41 2 = nI H := (hfw1.2 2 (by decide)).trans hH
        have h40 : ¬ w1 41 2 ≤ nI t := by rw [h02]; exact nI_ge ht (by omega)
        have e42 : a1 42 = a0 42 := hag1 42 (by decide)
        obtain ⟨k, hk4, ek, eb⟩ := hA1 t (by omega)
        have hcc : (((a1 42 t &&& (a1 43 t ^^^ -1)) >>> (nI day &&& 31)) &&& 1 = 0) ↔ ¬ (gcanC a0 t day = true ∧ A t day = false) := by
          rw [bt_test0 (by omega), bt_andn (by omega), ek, bt_nI (by omega), eb day hday, e42]
          show (gcanC a0 t day && !A t day) = false ↔ _
          cases gcanC a0 t day <;> cases A t day <;> simp
        have hbS : ((w1 41 3 >>> (nI t &&& 31)) &&& 1 = 0) ↔ ¬ S1 t = true := by rw [bt_test0 (by omega), hS1 t (by omega)]; simp
        have skp : (gcanC a0 t day = true → A t day = false → S1 t = true) → ∀ l5 : Option Value, gX d 83 34 [some (.ref 41), some (.int (nI day)), some (.int (nI bd)), some (.int (nI dep)), some (.int (nI t + 1)), l5] [] (n, u, HP w1 a1 b r q y) (cQfd n u b r q y w0 a0 H bd day A S E) := by
          intro hno l5
          refine ih w1 a1 S1 E1 _ _ (nI_1 t) hfw1 hag1 hA1 hS1 hD1 hnw (fun h hh h1 h2 => ?_)
          by_cases e : h = t
          · subst e; exact hno h1 h2
          · exact hcl h (by omega) h1 h2
        by_cases hcan : gcanC a0 t day = true ∧ A t day = false
        · by_cases hS : S1 t = true
          · skip
            iterate 4 refine r_step hk rfl rfl rfl ?_
            refine r_ge (fun hq9 => absurd hq9 h40) (fun _ => ?_)
            iterate 3 refine r_step hk rfl rfl rfl ?_
            refine r_ia hk (t) rfl rfl rfl (by omega) rfl ?_
            iterate 3 refine r_step hk rfl rfl rfl ?_
            refine r_ia hk (t) rfl rfl rfl (by omega) rfl ?_
            iterate 8 refine r_step hk rfl rfl rfl ?_
            refine r_eq (fun hq9 => absurd hq9 (fun z => (hcc.mp z) hcan)) (fun _ => ?_)
            iterate 5 refine r_step hk rfl rfl rfl ?_
            refine r_eq (fun hq9 => absurd hq9 (by decide)) (fun _ => ?_)
            iterate 7 refine r_step hk rfl rfl rfl ?_
            refine r_ne (fun _ => ?_) (fun hq9 => absurd hq9 (fun z => (hbS.mp z) hS))
            iterate 2 refine r_step hk rfl rfl rfl ?_
            exact skp (fun _ _ => hS) _
          · have hun := gun_s (h := t) (S := S1) (by omega) hS
            have hun2 := gun_le hnw.1
            have hS2 : cTS (upd2 w1 41 3 (w1 41 3 ||| 1 <<< (nI t &&& 31))) (gsu S1 t) := cTS_see hS1 (by omega)
            have hD2 : cTD (upd2 w1 41 3 (w1 41 3 ||| 1 <<< (nI t &&& 31))) E1 := cTD_3 hD1 _
            have hfw2 : cf41 w0 (upd2 w1 41 3 (w1 41 3 ||| 1 <<< (nI t &&& 31))) := cf41_up hfw1 (by decide) _
            have hld : gld A t ≤ bd := hv.2 t ht
            have hnS : ¬ S t = true := fun z => hS (hnw.1 t z)
            have hgl : gcnt (fun d => k.testBit d = true) 12 = gld A t := gcnt_congr 12 (fun i hi => by rw [eb i hi])
            have hlb : nI (gcnt (fun d => k.testBit d = true) 12) < nI bd ↔ gld A t < bd := by rw [hgl]; exact nI_ltI (by omega) (by omega)
            have hdep2 : dep + 1 ≤ gdn E1 := by have := gdn_le hnw.2.1; omega
            iterate 4 refine r_step hk rfl rfl rfl ?_
            refine r_ge (fun hq9 => absurd hq9 h40) (fun _ => ?_)
            iterate 3 refine r_step hk rfl rfl rfl ?_
            refine r_ia hk (t) rfl rfl rfl (by omega) rfl ?_
            iterate 3 refine r_step hk rfl rfl rfl ?_
            refine r_ia hk (t) rfl rfl rfl (by omega) rfl ?_
            iterate 8 refine r_step hk rfl rfl rfl ?_
            refine r_eq (fun hq9 => absurd hq9 (fun z => (hcc.mp z) hcan)) (fun _ => ?_)
            iterate 5 refine r_step hk rfl rfl rfl ?_
            refine r_eq (fun hq9 => absurd hq9 (by decide)) (fun _ => ?_)
            iterate 7 refine r_step hk rfl rfl rfl ?_
            refine r_ne (fun hq9 => absurd (hbS.mpr hS) hq9) (fun _ => ?_)
            iterate 7 refine r_step hk rfl rfl rfl ?_
            refine r_putI hk rfl rfl rfl rfl ?_
            iterate 3 refine r_step hk rfl rfl rfl ?_
            refine r_ia hk (t) rfl rfl rfl (by omega) rfl ?_
            refine r_callS hk [.int (a1 43 t)] [] rfl rfl rfl rfl rfl (by omega) (by rw [ek]; exact c_bitCount _ _ hk4) ?_
            rintro _ _ ⟨rfl, rfl⟩
            iterate 2 refine r_step hk rfl rfl rfl ?_
            refine r_lt (fun h115 => ?_) (fun h115 => ?_)
            · iterate 4 refine r_step hk rfl rfl rfl ?_
              refine r_ia hk (t) rfl rfl rfl (by omega) rfl ?_
              iterate 4 refine r_step hk rfl rfl rfl ?_
              refine r_is hk (t) rfl rfl rfl rfl (by omega) rfl rfl ?_
              refine r_step hk rfl rfl rfl ?_
              refine r_iret hk rfl (Or.inr rfl) ?_
              first | exact Or.inl ⟨_, _, gau A t day true, hfw2, gag_up hag1 (by decide), cTA_set hA1 (by omega) hday, gOK_now hv ht hday hcan.1 hcan.2 hnS (hlb.mp h115), rfl, rfl⟩ | exact Or.inl ⟨w3, _, gau A3 t day true, hfw3, gag_up hag3 (by decide), cTA_set hA3 (by omega) hday, gOK_gw hok3 (fun i hi => gsu_s (hnw.1 i hi)) ht hday hcan.1 hcan.2 hnS, rfl, rfl⟩
            · iterate 4 refine r_step hk rfl rfl rfl ?_
              refine r_callV hk [.ref 41, .int (nI t), .int (nI bd), .int (nI dep)] [] rfl rfl rfl rfl rfl rfl rfl (by omega) (HG (gun S1 - 1) (by omega) (d - 1) t dep _ a1 A (gsu S1 t) E1 (by omega) (by omega) ht gsu_m hdep2 hfw2 hag1 hA1 hS2 hD2 hv) ?_
              rintro _ _ (⟨w3, a3, A3, hfw3, hag3, hA3, hok3, rfl, rfl⟩ | ⟨w3, a3, S3, E3, hfw3, hag3, hA3, hS3, hD3, hnw3, hcl3, rfl, rfl⟩)
              · refine r_step hk rfl rfl rfl ?_
                refine r_eq (fun hq9 => absurd hq9 (by decide)) (fun _ => ?_)
                iterate 4 refine r_step hk rfl rfl rfl ?_
                refine r_ia hk (t) rfl rfl rfl (by omega) rfl ?_
                iterate 4 refine r_step hk rfl rfl rfl ?_
                refine r_is hk (t) rfl rfl rfl rfl (by omega) rfl rfl ?_
                refine r_step hk rfl rfl rfl ?_
                refine r_iret hk rfl (Or.inr rfl) ?_
                first | exact Or.inl ⟨_, _, gau A t day true, hfw2, gag_up hag1 (by decide), cTA_set hA1 (by omega) hday, gOK_now hv ht hday hcan.1 hcan.2 hnS (hlb.mp h115), rfl, rfl⟩ | exact Or.inl ⟨w3, _, gau A3 t day true, hfw3, gag_up hag3 (by decide), cTA_set hA3 (by omega) hday, gOK_gw hok3 (fun i hi => gsu_s (hnw.1 i hi)) ht hday hcan.1 hcan.2 hnS, rfl, rfl⟩
              · refine r_step hk rfl rfl rfl ?_
                refine r_eq (fun _ => ?_) (fun hq9 => absurd (by decide) hq9)
                iterate 2 refine r_step hk rfl rfl rfl ?_
                refine ih w3 a3 S3 E3 _ _ (nI_1 t) hfw3 hag3 hA3 hS3 hD3 ?_ (fun h hh h1 h2 => ?_)
                (refine cNw_tr hnw ⟨fun i hi => hnw3.1 i (gsu_s hi), hnw3.2.1, hnw3.2.2.1, fun h hh hs hn => ?_⟩; by_cases e : h = t; (subst e; exact ⟨by have := mt hlb.mpr h115; omega, hcl3⟩); exact hnw3.2.2.2 h hh hs (fun z => hn (by unfold gsu at z; rw [if_neg e] at z; exact z)))
                by_cases e : h = t
                (subst e; exact hnw3.1 h gsu_m)
                exact hnw3.1 h (gsu_s (hcl h (by omega) h1 h2))
        · skip
          iterate 4 refine r_step hk rfl rfl rfl ?_
          refine r_ge (fun hq9 => absurd hq9 h40) (fun _ => ?_)
          iterate 3 refine r_step hk rfl rfl rfl ?_
          refine r_ia hk (t) rfl rfl rfl (by omega) rfl ?_
          iterate 3 refine r_step hk rfl rfl rfl ?_
          refine r_ia hk (t) rfl rfl rfl (by omega) rfl ?_
          iterate 8 refine r_step hk rfl rfl rfl ?_
          refine r_eq (fun _ => ?_) (fun hq9 => absurd (hcc.mpr hcan) hq9)
          iterate 4 refine r_step hk rfl rfl rfl ?_
          refine r_eq (fun _ => ?_) (fun hq9 => absurd (by decide) hq9)
          iterate 2 refine r_step hk rfl rfl rfl ?_
          exact skp (fun h1 h2 => absurd ⟨h1, h2⟩ hcan) _
    iterate 3 refine r_step hk rfl rfl rfl ?_
    refine r_gt (fun hq9 => absurd hq9 h3) (fun _ => ?_)
    iterate 7 refine r_step hk rfl rfl rfl ?_
    refine r_eq (fun _ => ?_) (fun hq9 => absurd (hbE.mpr hE) hq9)
    iterate 7 refine r_step hk rfl rfl rfl ?_
    refine r_putI hk rfl rfl rfl rfl ?_
    iterate 2 refine r_step hk rfl rfl rfl ?_
    exact loop 0 (Nat.zero_le _) _ a S (gsu E day) _ _ rfl (cf41_up hfw (by decide) _) hag hA (cTS_4 hTS _) (cTD_see hTD hday) cNw_rf (fun h hh => absurd hh (by omega))
theorem c_findHelper {w0 a0 : Nat → Nat → Int32} {H bd : Nat} (hH : w0 41 2 = nI H) (hH10 : H ≤ 10) (hb12 : bd ≤ 12) : ∀ m, cPfd n u b r q y w0 a0 H bd m := by
  intro m
  induction m using Nat.strongRecOn with
  | _ m ih => exact c_findHelper_of hH hH10 hb12 (fun m' hm' => c_handOver hH10 (ih m' (by omega)))
theorem gVa_up {H : Nat} {can : Nat → Nat → Bool} {b1 b2 : Nat} {A : Nat → Nat → Bool} (h : gVa H can b1 A) (hb : b1 ≤ b2) : gVa H can b2 A := ⟨h.1, fun i hi => Nat.le_trans (h.2 i hi) hb⟩
/-- a place more, with the least bound that bears it -/
theorem c_fillPlace {w0 a0 w a : Nat → Nat → Int32} {H lo day d : Nat} {A : Nat → Nat → Bool} {dm : Nat → Nat} (hd : 24 ≤ d) (hH : w0 41 2 = nI H) (hH10 : H ≤ 10) (hday : day < 12) (hlo : lo ≤ 12) (hfw : cf41 w0 w) (hag : gag [43] a0 a) (hA : cTA a A) (hv : gVa H (gcanC a0) lo A) (hdm : ∀ d, d < 12 → gcov A H d + (if d = day then 1 else 0) ≤ dm d) (hfe : gFe H (gcanC a0) 12 dm) : gE d 82 [.ref 41, .int (nI day), .int (nI lo)] (n, u, HP w a b r q y) (fun v S' => ∃ bd w' a' A', bd ≤ 12 ∧ lo ≤ bd ∧ (∀ b', lo ≤ b' → b' < bd → ¬ gFe H (gcanC a0) b' dm) ∧ cf41 w0 w' ∧ gag [43] a0 a' ∧ cTA a' A' ∧ gOK H (gcanC a0) bd day A (fun _ => false) A' ∧ v = some (.int (nI bd)) ∧ S' = (n, u, HP w' a' b r q y)) := by
  have hk : gMT[82]? = some gro_82 := rfl
  refine r_inQ hk [some (.ref 41), some (.int (nI day)), some (.int (nI lo)), none] (Nat.le_of_ble_eq_true rfl) rfl ?_
  intro Q hQ
  have loop : ∀ t, t ≤ 13 → lo ≤ t → ∀ (w1 a1 : Nat → Nat → Int32) (v : Int32), v = nI t → cf41 w0 w1 → gag [43] a0 a1 → cTA a1 A → (∀ b', lo ≤ b' → b' < t → ¬ gFe H (gcanC a0) b' dm) → gX d 82 2 [some (.ref 41), some (.int (nI day)), some (.int (nI lo)), some (.int v)] [] (n, u, HP w1 a1 b r q y) Q := by
    refine g_down ?_ ?_
    · intro hl w1 a1 v hv0 hfw1 hag1 hA1 hno
      exact absurd hfe (hno 12 hlo (by decide))
    · intro t ht ih hl w1 a1 v hv0 hfw1 hag1 hA1 hno
      subst hv0
      have h5 : ¬ (12 : Int32) < nI t := nI_nlt (a := 12) (by omega) (by decide)
      have hw2 : cf41 w0 (upd2 (upd2 w1 41 3 0) 41 4 0) := cf41_up (cf41_up hfw1 (by decide) _) (by decide) _
      have hS0 : cTS (upd2 (upd2 w1 41 3 0) 41 4 0) (fun _ => false) := cTS_4 (fun g hg => by rw [upd2_same]; exact b_0 g) _
      have hD0 : cTD (upd2 (upd2 w1 41 3 0) 41 4 0) (fun _ => false) := fun g hg => by rw [upd2_same]; exact b_0 g
      iterate 3 refine r_step hk rfl rfl rfl ?_
      refine r_gt (fun hq9 => absurd hq9 h5) (fun _ => ?_)
      iterate 2 refine r_step hk rfl rfl rfl ?_
      refine r_putI hk rfl rfl rfl rfl ?_
      iterate 2 refine r_step hk rfl rfl rfl ?_
      refine r_putI hk rfl rfl rfl rfl ?_
      iterate 4 refine r_step hk rfl rfl rfl ?_
      refine r_callV hk [.ref 41, .int (nI day), .int (nI t), .int 0] [] rfl rfl rfl rfl rfl rfl rfl (by omega) (c_findHelper hH hH10 (by omega) 10 (d - 1) day 0 _ a1 A (fun _ => false) (fun _ => false) (gcnt_le _ 10) (by omega) hday (Nat.zero_le _) hw2 hag1 hA1 hS0 hD0 (gVa_up hv hl)) ?_
      rintro _ _ (⟨w3, a3, A3, hfw3, hag3, hA3, hok3, rfl, rfl⟩ | ⟨w3, a3, S3, E3, hfw3, hag3, hA3, hS3, hD3, hnw3, hE3, rfl, rfl⟩)
      · refine r_step hk rfl rfl rfl ?_
        refine r_eq (fun hq9 => absurd hq9 (by decide)) (fun _ => ?_)
        refine r_step hk rfl rfl rfl ?_
        refine r_iret hk rfl trivial ?_
        exact hQ _ _ ⟨t, w3, a3, A3, by omega, hl, hno, hfw3, hag3, hA3, hok3, rfl, rfl⟩
      · refine r_step hk rfl rfl rfl ?_
        refine r_eq (fun _ => ?_) (fun hq9 => absurd (by decide) hq9)
        iterate 2 refine r_step hk rfl rfl rfl ?_
        exact ih (by omega) w3 a3 _ (nI_1 t) hfw3 hag3 hA3 (fun b' h1 h2 => by by_cases e : b' = t; (subst e; exact cno1 hday hnw3 hE3 hdm); exact hno b' h1 (by omega))
  iterate 2 refine r_step hk rfl rfl rfl ?_
  exact loop lo (by omega) (Nat.le_refl _) w a _ rfl hfw hag hA (fun b' h1 h2 => absurd h2 (by omega))
theorem c_helpersOn {H day d : Nat} (hH : w 41 2 = nI H) (hH10 : H ≤ 10) (hday : day < 12) : gE d 81 [.ref 41, .int (nI day)] (n, u, HP w a b r q y) (gre (nI (gcnt (fun h => gcanC a h day = true) H)) (n, u, HP w a b r q y)) := by
  have hk : gMT[81]? = some gro_81 := rfl
  refine r_inQ hk [some (.ref 41), some (.int (nI day)), none, none] (Nat.le_of_ble_eq_true rfl) rfl ?_
  intro Q hQ
  have loop : ∀ t, t ≤ H → ∀ (x v : Int32), x = nI (gcnt (fun h => gcanC a h day = true) t) → v = nI t → gX d 81 4 [some (.ref 41), some (.int (nI day)), some (.int x), some (.int v)] [] (n, u, HP w a b r q y) Q := by
    refine g_down ?_ ?_
    · intro x v hx hv
      iterate 4 refine r_step hk rfl rfl rfl ?_
      refine r_ge (fun _ => ?_) (fun hq9 => absurd (show w 41 2 ≤ v by rw [hv, hH]; exact nI_le (Nat.le_refl _) (by omega)) hq9)
      refine r_step hk rfl rfl rfl ?_
      refine r_iret hk rfl trivial ?_
      exact hQ _ _ ⟨congrArg (fun z => some (Value.int z)) hx, rfl⟩
    · intro t ht ih x v hx hv
      have ebt : (a 42 t >>> (nI day &&& 31)) &&& 1 = if gcanC a t day = true then 1 else 0 := bt_test (by omega)
      have e24 : x + ((a 42 t >>> (nI day &&& 31)) &&& 1) = nI (gcnt (fun h => gcanC a h day = true) (t + 1)) := by
        rw [ebt]
        by_cases hc : gcanC a t day = true
        · rw [if_pos hc]; exact gcnt_t hx hc
        · rw [if_neg hc]; exact gcnt_f hx hc
      iterate 4 refine r_step hk rfl rfl rfl ?_
      refine r_ge (fun hq9 => absurd hq9 (show ¬ w 41 2 ≤ v by rw [hv, hH]; exact nI_ge ht (by omega))) (fun _ => ?_)
      iterate 4 refine r_step hk rfl rfl rfl ?_
      refine r_ia hk (t) rfl rfl hv (by omega) rfl ?_
      iterate 8 refine r_step hk rfl rfl rfl ?_
      exact ih _ _ e24 (nI_s hv)
  iterate 4 refine r_step hk rfl rfl rfl ?_
  exact loop 0 (Nat.zero_le _) _ _ rfl rfl
theorem c_eachDay {H d : Nat} (hd : 1 ≤ d) (hH : w 41 2 = nI H) (hH10 : H ≤ 10) (v1 : Int32) : gE d 80 [.ref 41, .int v1] (n, u, HP w a b r q y) (gbo (∀ day, day < 12 → bt v1 day = true → 2 ≤ gcnt (fun h => gcanC a h day = true) H) (n, u, HP w a b r q y)) := by
  have hk : gMT[80]? = some gro_80 := rfl
  refine r_inQ hk [some (.ref 41), some (.int v1), none] (Nat.le_of_ble_eq_true rfl) rfl ?_
  intro Q hQ
  have loop : ∀ t, t ≤ 12 → ∀ v : Int32, v = nI t → (∀ day, day < t → bt v1 day = true → 2 ≤ gcnt (fun h => gcanC a h day = true) H) → gX d 80 2 [some (.ref 41), some (.int v1), some (.int v)] [] (n, u, HP w a b r q y) Q := by
    refine g_down ?_ ?_
    · intro v hv hall
      subst hv
      iterate 3 refine r_step hk rfl rfl rfl ?_
      refine r_ge (fun _ => ?_) (fun hq9 => absurd (by decide) hq9)
      refine r_step hk rfl rfl rfl ?_
      refine r_iret hk rfl (Or.inr rfl) ?_
      exact hQ _ _ (gbo_t hall)
    · intro t ht ih v hv hall
      subst hv
      have h5 : ¬ (12 : Int32) ≤ nI t := nI_ge (b := 12) ht (by decide)
      have hbt : ((v1 >>> (nI t &&& 31)) &&& 1 = 0) ↔ ¬ bt v1 t = true := by rw [bt_test0 (by omega)]; simp
      have hcl := gcnt_le (fun h => gcanC a h t = true) H
      have hge2 : (2 : Int32) ≤ nI (gcnt (fun h => gcanC a h t = true) H) ↔ 2 ≤ gcnt (fun h => gcanC a h t = true) H := nI_leI (a := 2) (by omega) (by omega)
      by_cases hb : bt v1 t = true
      · skip
        iterate 3 refine r_step hk rfl rfl rfl ?_
        refine r_ge (fun hq9 => absurd hq9 h5) (fun _ => ?_)
        iterate 6 refine r_step hk rfl rfl rfl ?_
        refine r_eq (fun hq9 => absurd hq9 (fun z => (hbt.mp z) hb)) (fun _ => ?_)
        iterate 2 refine r_step hk rfl rfl rfl ?_
        refine r_callV hk [.ref 41, .int (nI t)] [] rfl rfl rfl rfl rfl rfl rfl (by omega) (c_helpersOn hH hH10 ht) ?_
        rintro _ _ ⟨rfl, rfl⟩
        iterate 2 refine r_step hk rfl rfl rfl ?_
        refine r_ge (fun h22 => ?_) (fun h22 => ?_)
        · iterate 2 refine r_step hk rfl rfl rfl ?_
          exact ih _ (nI_1 t) (fun day hd2 hb2 => by by_cases e : day = t; (subst e; exact hge2.mp h22); exact hall day (by omega) hb2)
        · refine r_step hk rfl rfl rfl ?_
          refine r_iret hk rfl (Or.inl rfl) ?_
          exact hQ _ _ (gbo_f (fun hc => h22 (hge2.mpr (hc t ht hb))))
      · skip
        iterate 3 refine r_step hk rfl rfl rfl ?_
        refine r_ge (fun hq9 => absurd hq9 h5) (fun _ => ?_)
        iterate 6 refine r_step hk rfl rfl rfl ?_
        refine r_eq (fun _ => ?_) (fun hq9 => absurd (hbt.mpr hb) hq9)
        iterate 2 refine r_step hk rfl rfl rfl ?_
        exact ih _ (nI_1 t) (fun day hd2 hb2 => by by_cases e : day = t; (subst e; exact absurd hb2 hb); exact hall day (by omega) hb2)
  iterate 2 refine r_step hk rfl rfl rfl ?_
  exact loop 0 (Nat.zero_le _) _ rfl (fun day hd2 => absurd hd2 (by omega))
theorem gcov_le_can {H : Nat} {can B : Nat → Nat → Bool} {d : Nat} (hd : d < 12) (h : ∀ h, h < H → ∀ d, d < 12 → B h d = true → can h d = true) : gcov B H d ≤ gcnt (fun h => can h d = true) H := gcnt_mono H (fun i hi hb => h i hi d hd hb)
theorem c_least {a0 : Nat → Nat → Int32} {H d : Nat} (hd : 30 ≤ d) (hH : w 41 2 = nI H) (hH10 : H ≤ 10) (v1 : Int32) : gE d 78 [.ref 0, .int v1] (n, u, HP w a0 b r q y) (fun v S' => gLe H (gcanC a0) v1 v ∧ ∃ w' a', cf41 w w' ∧ gag [43] a0 a' ∧ S' = (n, u, HP w' a' b r q y)) := by
  have lt : gE (d - 1) 79 [.ref 41, .int v1] (n, u, HP w a0 b r q y) (fun v S' => (gLe H (gcanC a0) v1 v ∧ ∃ w' a', cf41 w w' ∧ gag [43] a0 a' ∧ S' = (n, u, HP w' a' b r q y)) ∧ ∃ c : Int32, v = some (.int c)) := by
    have hk : gMT[79]? = some gro_79 := rfl
    refine r_inQ hk [some (.ref 41), some (.int v1), none, none] (Nat.le_of_ble_eq_true rfl) rfl ?_
    intro Q hQ
    have loop : gin v1 4096 → gFe H (gcanC a0) 12 (gdm v1) → ∀ t, t ≤ 12 → ∀ (w1 a1 : Nat → Nat → Int32) (A : Nat → Nat → Bool) (bd : Nat) (x v : Int32), v = nI t → x = nI bd → bd ≤ 12 → cf41 w w1 → gag [43] a0 a1 → cTA a1 A → gVa H (gcanC a0) bd A → (∀ d, d < 12 → gcov A H d = gpla v1 (2 * t) d) → (∀ b', b' < bd → ¬ gFe H (gcanC a0) b' (gdm v1)) → gX (d - 1) 79 45 [some (.ref 41), some (.int v1), some (.int x), some (.int v)] [] (n, u, HP w1 a1 b r q y) Q := by
      intro hg hfe
      refine g_down ?_ ?_
      · intro w1 a1 A bd x v hv0 hx hb12 hfw hag hA hv hcv hno
        subst hv0; subst hx
        iterate 3 refine r_step hk rfl rfl rfl ?_
        refine r_ge (fun _ => ?_) (fun hq9 => absurd (by decide) hq9)
        refine r_step hk rfl rfl rfl ?_
        refine r_iret hk rfl trivial ?_
        exact hQ _ _ ⟨⟨Or.inl ⟨bd, hb12, hg, ⟨A, hv.1, hv.2, fun d hd => by rw [hcv d hd, gpla_24 hd]; exact Nat.le_refl _⟩, hno, rfl⟩, w1, a1, hfw, hag, rfl⟩, _, rfl⟩
      · intro t ht ih w1 a1 A bd x v hv0 hx hb12 hfw hag hA hv hcv hno
        subst hv0; subst hx
        have h48 : ¬ (12 : Int32) ≤ nI t := nI_ge (b := 12) ht (by decide)
        have hbt : ((v1 >>> (nI t &&& 31)) &&& 1 = 0) ↔ ¬ bt v1 t = true := by rw [bt_test0 (by omega)]; simp
        by_cases hb : bt v1 t = true
        · have e1 : ∀ d, gpla v1 (2 * t + 1) d = gpla v1 (2 * t) d + if d = t then 1 else 0 := fun d => by
            have := gpla_s (x := v1) (k := 2 * t) (by rw [show 2 * t / 2 = t by omega]; exact hb) d
            rw [show 2 * t / 2 = t by omega] at this; exact this
          have e2 : ∀ d, gpla v1 (2 * t + 1 + 1) d = gpla v1 (2 * t + 1) d + if d = t then 1 else 0 := fun d => by
            have := gpla_s (x := v1) (k := 2 * t + 1) (by rw [show (2 * t + 1) / 2 = t by omega]; exact hb) d
            rw [show (2 * t + 1) / 2 = t by omega] at this; exact this
          iterate 3 refine r_step hk rfl rfl rfl ?_
          refine r_ge (fun hq9 => absurd hq9 h48) (fun _ => ?_)
          iterate 6 refine r_step hk rfl rfl rfl ?_
          refine r_eq (fun hq9 => absurd hq9 (fun z => (hbt.mp z) hb)) (fun _ => ?_)
          iterate 3 refine r_step hk rfl rfl rfl ?_
          refine r_callV hk [.ref 41, .int (nI t), .int (nI bd)] [] rfl rfl rfl rfl rfl rfl rfl (by omega) (c_fillPlace (by omega) hH hH10 ht hb12 hfw hag hA hv (dm := gdm v1) (fun d hd => by rw [hcv d hd, ← e1]; exact gpla_le _ _) hfe) ?_
          rintro _ _ ⟨b2, w2, a2, A2, hb2, hle2, hno2, hfw2, hag2, hA2, hok2, rfl, rfl⟩
          have hcv2 : ∀ d, d < 12 → gcov A2 H d = gpla v1 (2 * t + 1) d := fun d hd => by rw [hok2.2.1 d hd, hcv d hd, e1]
          iterate 4 refine r_step hk rfl rfl rfl ?_
          refine r_callV hk [.ref 41, .int (nI t), .int (nI b2)] [] rfl rfl rfl rfl rfl rfl rfl (by omega) (c_fillPlace (by omega) hH hH10 ht hb2 hfw2 hag2 hA2 hok2.1 (dm := gdm v1) (fun d hd => by rw [hcv2 d hd, ← e2]; exact gpla_le _ _) hfe) ?_
          rintro _ _ ⟨b3, w3, a3, A3, hb3, hle3, hno3, hfw3, hag3, hA3, hok3, rfl, rfl⟩
          iterate 3 refine r_step hk rfl rfl rfl ?_
          exact ih w3 a3 A3 b3 _ _ (nI_1 t) rfl hb3 hfw3 hag3 hA3 hok3.1 (fun d hd => by rw [hok3.2.1 d hd, hcv2 d hd, ← e2, show 2 * (t + 1) = 2 * t + 1 + 1 by omega]) (fun b' hb' => by rcases Nat.lt_or_ge b' bd with h1 | h1; exact hno b' h1; rcases Nat.lt_or_ge b' b2 with h2 | h2; exact hno2 b' h1 h2; exact hno3 b' h2 hb')
        · skip
          iterate 3 refine r_step hk rfl rfl rfl ?_
          refine r_ge (fun hq9 => absurd hq9 h48) (fun _ => ?_)
          iterate 6 refine r_step hk rfl rfl rfl ?_
          refine r_eq (fun _ => ?_) (fun hq9 => absurd (hbt.mpr hb) hq9)
          iterate 2 refine r_step hk rfl rfl rfl ?_
          exact ih w1 a1 A bd _ _ (nI_1 t) rfl hb12 hfw hag hA hv (fun d hd => by rw [hcv d hd, show 2 * (t + 1) = 2 * t + 1 + 1 by omega, gpla_n (by rw [show (2 * t + 1) / 2 = t by omega]; exact hb), gpla_n (by rw [show 2 * t / 2 = t by omega]; exact hb)]) hno
    have clr : gin v1 4096 → gFe H (gcanC a0) 12 (gdm v1) → ∀ k, k ≤ 10 → ∀ (a1 : Nat → Nat → Int32) (v : Int32), v = nI k → gag [43] a0 a1 → (∀ i, i < k → a1 43 i = 0) → gX (d - 1) 79 22 [some (.ref 41), some (.int v1), some (.int v), none] [] (n, u, HP w a1 b r q y) Q := by
      intro hg hfe
      refine g_down ?_ ?_
      · intro a1 v hv0 hag h0
        subst hv0
        iterate 3 refine r_step hk rfl rfl rfl ?_
        refine r_ge (fun _ => ?_) (fun hq9 => absurd (by decide) hq9)
        iterate 4 refine r_step hk rfl rfl rfl ?_
        exact loop hg hfe 0 (Nat.zero_le _) w a1 (fun _ _ => false) 0 _ _ rfl rfl (Nat.zero_le _) cf41_rf hag (fun h hh => ⟨0, by decide, by rw [h0 h hh]; rfl, fun d _ => by simp⟩) ⟨fun _ _ _ _ hf => absurd hf Bool.false_ne_true, fun h _ => by rw [gld_0]; exact Nat.zero_le _⟩ (fun d _ => by rw [gcov_0, gpla_0]) (fun b' hb' => absurd hb' (by omega))
      · intro k hk10 ih a1 v hv0 hag h0
        subst hv0
        iterate 3 refine r_step hk rfl rfl rfl ?_
        refine r_ge (fun hq9 => absurd hq9 (show ¬ (10 : Int32) ≤ nI k from nI_ge (b := 10) hk10 (by decide))) (fun _ => ?_)
        iterate 4 refine r_step hk rfl rfl rfl ?_
        refine r_is hk (k) rfl rfl rfl rfl hk10 rfl rfl ?_
        iterate 2 refine r_step hk rfl rfl rfl ?_
        exact ih _ _ (nI_1 k) (gag_up hag (by decide)) (fun i hi => by rw [upd2_at]; split; rfl; exact h0 i (by omega))
    iterate 2 refine r_step hk rfl rfl rfl ?_
    refine r_callS hk [.int v1, .int 4096] [] rfl rfl rfl rfl rfl (by omega) (c_within _ _ v1 4096 (by decide)) ?_
    rintro _ _ ⟨⟨hg, rfl⟩ | ⟨hg, rfl⟩, rfl⟩
    · refine r_step hk rfl rfl rfl ?_
      refine r_eq (fun hq9 => absurd hq9 (by decide)) (fun _ => ?_)
      iterate 2 refine r_step hk rfl rfl rfl ?_
      refine r_callV hk [.ref 41, .int v1] [] rfl rfl rfl rfl rfl rfl rfl (by omega) (c_eachDay (by omega) hH hH10 v1) ?_
      rintro _ _ ⟨⟨hs, rfl⟩ | ⟨hs, rfl⟩, rfl⟩
      · refine r_step hk rfl rfl rfl ?_
        refine r_ne (fun _ => ?_) (fun hq9 => absurd hq9 (by decide))
        iterate 2 refine r_step hk rfl rfl rfl ?_
        refine clr hg ⟨gcanC a0, fun _ _ _ _ hb => hb, fun h _ => gcnt_le _ 12, fun d hd => ?_⟩ 0 (Nat.zero_le _) a0 _ rfl gag_rf (fun i hi => absurd hi (by omega))
        unfold gdm
        split
        (exact hs d hd (by assumption))
        exact Nat.zero_le _
      · refine r_step hk rfl rfl rfl ?_
        refine r_ne (fun hq9 => absurd (by decide) hq9) (fun _ => ?_)
        refine r_step hk rfl rfl rfl ?_
        refine r_iret hk rfl trivial ?_
        first | exact hQ _ _ ⟨⟨Or.inr ⟨fun h => absurd h hg, rfl⟩, w, a0, cf41_rf, gag_rf, rfl⟩, _, rfl⟩ | (refine hQ _ _ ⟨⟨Or.inr ⟨fun _ b' hb' hf => hs (fun day hday hb => ?_), rfl⟩, w, a0, cf41_rf, gag_rf, rfl⟩, _, rfl⟩; obtain ⟨B, hB1, hB2, hB3⟩ := hf; have h3 := hB3 day hday; have h4 := gcov_le_can hday hB1; unfold gdm at h3; rw [if_pos hb] at h3; omega)
    · refine r_step hk rfl rfl rfl ?_
      refine r_eq (fun _ => ?_) (fun hq9 => absurd (by decide) hq9)
      refine r_step hk rfl rfl rfl ?_
      refine r_iret hk rfl trivial ?_
      first | exact hQ _ _ ⟨⟨Or.inr ⟨fun h => absurd h hg, rfl⟩, w, a0, cf41_rf, gag_rf, rfl⟩, _, rfl⟩ | (refine hQ _ _ ⟨⟨Or.inr ⟨fun _ b' hb' hf => hs (fun day hday hb => ?_), rfl⟩, w, a0, cf41_rf, gag_rf, rfl⟩, _, rfl⟩; obtain ⟨B, hB1, hB2, hB3⟩ := hf; have h3 := hB3 day hday; have h4 := gcov_le_can hday hB1; unfold gdm at h3; rw [if_pos hb] at h3; omega)
  have hk : gMT[78]? = some gro_78 := rfl
  refine r_in hk [some (.ref 0), some (.int v1)] (Nat.le_of_ble_eq_true rfl) rfl ?_
  iterate 3 refine r_step hk rfl rfl rfl ?_
  refine r_callV hk [.ref 41, .int v1] [] rfl rfl rfl rfl rfl rfl rfl (by omega) lt ?_
  rintro _ _ ⟨h, c, rfl⟩
  exact r_iret hk rfl trivial h
end GC8
