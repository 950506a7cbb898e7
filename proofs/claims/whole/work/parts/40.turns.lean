-- deps: 39
/-! ===== turns: who comes when ===== -/
def gld (A : Nat → Nat → Bool) (h : Nat) : Nat := gcnt (fun d => A h d = true) 12
def gcov (A : Nat → Nat → Bool) (H d : Nat) : Nat := gcnt (fun h => A h d = true) H
def gau (A : Nat → Nat → Bool) (h d : Nat) (v : Bool) : Nat → Nat → Bool := fun i j => if i = h ∧ j = d then v else A i j
def gsu (S : Nat → Bool) (h : Nat) : Nat → Bool := fun i => if i = h then true else S i
/-- the days that dm wants can be had with b turns for each -/
def gFe (H : Nat) (can : Nat → Nat → Bool) (b : Nat) (dm : Nat → Nat) : Prop := ∃ B : Nat → Nat → Bool, (∀ h, h < H → ∀ d, d < 12 → B h d = true → can h d = true) ∧ (∀ h, h < H → gld B h ≤ b) ∧ ∀ d, d < 12 → dm d ≤ gcov B H d
theorem gFe_mono {H : Nat} {can : Nat → Nat → Bool} {b b' : Nat} {dm dm' : Nat → Nat} (hb : b ≤ b') (hd : ∀ d, d < 12 → dm' d ≤ dm d) (h : gFe H can b dm) : gFe H can b' dm' := by
  obtain ⟨B, h1, h2, h3⟩ := h
  exact ⟨B, h1, fun h hh => Nat.le_trans (h2 h hh) hb, fun d hd' => Nat.le_trans (hd d hd') (h3 d hd')⟩
theorem gcut {H b day : Nat} {can A B : Nat → Nat → Bool} {S D : Nat → Bool} (h1 : ∀ d, d < 12 → D d = true → ∀ h, h < H → can h d = true → A h d = false → S h = true) (h2 : ∀ h, h < H → S h = true → b ≤ gld A h ∧ ∀ d, d < 12 → A h d = true → D d = true) (h3 : D day = true) (hday : day < 12)
    (hB1 : ∀ h, h < H → ∀ d, d < 12 → B h d = true → can h d = true) (hB2 : ∀ h, h < H → gld B h ≤ b) (hB3 : ∀ d, d < 12 → D d = true → gcov A H d + (if d = day then 1 else 0) ≤ gcov B H d) : False := by
  have key : ∀ X : Nat → Nat → Bool, nsum (fun h => nsum (fun d => if D d = true ∧ X h d = true then 1 else 0) 12) H = nsum (fun d => if D d = true then gcov X H d else 0) 12 := by
    intro X
    rw [nsum_swap (fun h d => if D d = true ∧ X h d = true then 1 else 0)]
    refine nsum_congr 12 (fun d _ => ?_)
    by_cases hD : D d = true
    · rw [if_pos hD]
      unfold gcov
      rw [gcnt_nsum]
      refine nsum_congr H (fun h _ => ?_)
      simp [hD]
    · rw [if_neg hD]
      refine (nsum_congr H (fun h _ => ?_)).trans (nsum_0 H)
      simp [hD]
  have hle : nsum (fun h => nsum (fun d => if D d = true ∧ B h d = true then 1 else 0) 12) H ≤ nsum (fun h => nsum (fun d => if D d = true ∧ A h d = true then 1 else 0) 12) H := by
    refine nsum_le H (fun h hh => ?_)
    by_cases hS : S h = true
    · obtain ⟨q1, q2⟩ := h2 h hh hS
      have e1 : nsum (fun d => if D d = true ∧ B h d = true then 1 else 0) 12 ≤ gld B h := by
        unfold gld
        rw [gcnt_nsum]
        refine nsum_le 12 (fun d _ => ?_)
        by_cases hb : B h d = true <;> simp [hb]
        split <;> omega
      have e2 : gld A h = nsum (fun d => if D d = true ∧ A h d = true then 1 else 0) 12 := by
        unfold gld
        rw [gcnt_nsum]
        refine nsum_congr 12 (fun d hd => ?_)
        by_cases hb : A h d = true
        · simp [hb, q2 d hd hb]
        · simp [hb]
      have := hB2 h hh
      omega
    · refine nsum_le 12 (fun d hd => ?_)
      by_cases hq : D d = true ∧ B h d = true
      · have hA : A h d = true := by
          cases hA : A h d with
          | true => rfl
          | false => exact absurd (h1 d hd hq.1 h hh (hB1 h hh d hd hq.2) hA) hS
        simp [hq.1, hA]
        split <;> omega
      · rw [if_neg hq]; omega
  rw [key A, key B] at hle
  have hlt : nsum (fun d => if D d = true then gcov A H d else 0) 12 < nsum (fun d => if D d = true then gcov B H d else 0) 12 := by
    refine nsum_lt (k := day) 12 (fun d hd => ?_) hday ?_
    · by_cases hD : D d = true
      · rw [if_pos hD, if_pos hD]
        have := hB3 d hd hD
        omega
      · rw [if_neg hD, if_neg hD]; omega
    · rw [if_pos h3, if_pos h3]
      have := hB3 day hday h3
      rw [if_pos rfl] at this
      omega
  omega
theorem gld_o {A : Nat → Nat → Bool} {h d h' : Nat} {v : Bool} (hn : h' ≠ h) : gld (gau A h d v) h' = gld A h' := by
  refine gcnt_congr 12 (fun i _ => ?_)
  show (if h' = h ∧ i = d then v else A h' i) = true ↔ _
  rw [if_neg (fun z => hn z.1)]
theorem gld_t {A : Nat → Nat → Bool} {h d : Nat} (hd : d < 12) (h0 : A h d = false) : gld (gau A h d true) h = gld A h + 1 := by
  refine gcnt_ins (k := d) ?_ ?_ 12 hd (fun i _ hi => ?_)
  · show (if h = h ∧ d = d then true else A h d) = true
    rw [if_pos ⟨rfl, rfl⟩]
  · rw [h0]; decide
  · show (if h = h ∧ i = d then true else A h i) = true ↔ _
    rw [if_neg (fun z => hi z.2)]
theorem gld_f {A : Nat → Nat → Bool} {h d : Nat} (hd : d < 12) (h1 : A h d = true) : gld A h = gld (gau A h d false) h + 1 := by
  refine gcnt_ins (k := d) h1 ?_ 12 hd (fun i _ hi => ?_)
  · show ¬ (if h = h ∧ d = d then false else A h d) = true
    rw [if_pos ⟨rfl, rfl⟩]; decide
  · show _ ↔ (if h = h ∧ i = d then false else A h i) = true
    rw [if_neg (fun z => hi z.2)]
theorem gcov_o {A : Nat → Nat → Bool} {H h d d' : Nat} {v : Bool} (hn : d' ≠ d) : gcov (gau A h d v) H d' = gcov A H d' := by
  refine gcnt_congr H (fun i _ => ?_)
  show (if i = h ∧ d' = d then v else A i d') = true ↔ _
  rw [if_neg (fun z => hn z.2)]
theorem gcov_t {A : Nat → Nat → Bool} {H h d : Nat} (hh : h < H) (h0 : A h d = false) : gcov (gau A h d true) H d = gcov A H d + 1 := by
  refine gcnt_ins (k := h) ?_ ?_ H hh (fun i _ hi => ?_)
  · show (if h = h ∧ d = d then true else A h d) = true
    rw [if_pos ⟨rfl, rfl⟩]
  · rw [h0]; decide
  · show (if i = h ∧ d = d then true else A i d) = true ↔ _
    rw [if_neg (fun z => hi z.1)]
theorem gcov_f {A : Nat → Nat → Bool} {H h d : Nat} (hh : h < H) (h1 : A h d = true) : gcov A H d = gcov (gau A h d false) H d + 1 := by
  refine gcnt_ins (k := h) h1 ?_ H hh (fun i _ hi => ?_)
  · show ¬ (if h = h ∧ d = d then false else A h d) = true
    rw [if_pos ⟨rfl, rfl⟩]; decide
  · show _ ↔ (if i = h ∧ d = d then false else A i d) = true
    rw [if_neg (fun z => hi z.1)]
/-- A is an assignment under can and b -/
def gVa (H : Nat) (can : Nat → Nat → Bool) (b : Nat) (A : Nat → Nat → Bool) : Prop := (∀ h, h < H → ∀ d, d < 12 → A h d = true → can h d = true) ∧ ∀ h, h < H → gld A h ≤ b
/-- a place of day was found -/
def gOK (H : Nat) (can : Nat → Nat → Bool) (b day : Nat) (A : Nat → Nat → Bool) (S : Nat → Bool) (A' : Nat → Nat → Bool) : Prop := gVa H can b A' ∧ (∀ d, d < 12 → gcov A' H d = gcov A H d + if d = day then 1 else 0) ∧ (∀ h, h < H → S h = true → A' h = A h)
/-- helper h gave a day away -/
def gGvw (H : Nat) (can : Nat → Nat → Bool) (b h : Nat) (A : Nat → Nat → Bool) (S : Nat → Bool) (A' : Nat → Nat → Bool) : Prop := gVa H can b A' ∧ (∀ d, d < 12 → gcov A' H d = gcov A H d) ∧ (∀ h', h' < H → h' ≠ h → S h' = true → A' h' = A h') ∧ gld A' h + 1 ≤ b ∧ ∀ d, d < 12 → A' h d = true → A h d = true
theorem gOK_now {H b day h : Nat} {can A : Nat → Nat → Bool} {S : Nat → Bool} (hv : gVa H can b A) (hh : h < H) (hd : day < 12) (hc : can h day = true) (h0 : A h day = false) (hS : ¬ S h = true) (hl : gld A h < b) : gOK H can b day A S (gau A h day true) := by
  refine ⟨⟨fun i hi d hd' hA => ?_, fun i hi => ?_⟩, fun d hd' => ?_, fun i hi hSi => ?_⟩
  · by_cases e : i = h ∧ d = day
    · rw [e.1, e.2]; exact hc
    · refine hv.1 i hi d hd' ?_
      have : gau A h day true i d = A i d := if_neg e
      rw [← this]; exact hA
  · by_cases e : i = h
    · subst e; rw [gld_t hd h0]; omega
    · rw [gld_o e]; exact hv.2 i hi
  · by_cases e : d = day
    · subst e; rw [if_pos rfl, gcov_t hh h0]
    · rw [if_neg e, gcov_o e, Nat.add_zero]
  · funext d
    show (if i = h ∧ d = day then true else A i d) = A i d
    rw [if_neg (fun z : i = h ∧ d = day => hS (z.1 ▸ hSi))]
theorem gOK_gw {H b day h : Nat} {can A A2 : Nat → Nat → Bool} {S S1 : Nat → Bool} (hg : gGvw H can b h A S1 A2) (hS1 : ∀ i, S i = true → S1 i = true) (hh : h < H) (hd : day < 12) (hc : can h day = true) (h0 : A h day = false) (hS : ¬ S h = true) : gOK H can b day A S (gau A2 h day true) := by
  obtain ⟨hv, hcv, hrow, hl, hsub⟩ := hg
  have h02 : A2 h day = false := by
    cases hq : A2 h day with
    | false => rfl
    | true => have := hsub day hd hq; rw [h0] at this; exact absurd this (by decide)
  refine ⟨⟨fun i hi d hd' hA => ?_, fun i hi => ?_⟩, fun d hd' => ?_, fun i hi hSi => ?_⟩
  · by_cases e : i = h ∧ d = day
    · rw [e.1, e.2]; exact hc
    · refine hv.1 i hi d hd' ?_
      have : gau A2 h day true i d = A2 i d := if_neg e
      rw [← this]; exact hA
  · by_cases e : i = h
    · subst e; rw [gld_t hd h02]; omega
    · rw [gld_o e]; exact hv.2 i hi
  · by_cases e : d = day
    · subst e; rw [if_pos rfl, gcov_t hh h02, hcv d hd']
    · rw [if_neg e, gcov_o e, Nat.add_zero, hcv d hd']
  · have hne : i ≠ h := fun e => hS (e ▸ hSi)
    rw [← hrow i hi hne (hS1 i hSi)]
    funext d
    show (if i = h ∧ d = day then true else A2 i d) = A2 i d
    rw [if_neg (fun z => hne z.1)]
theorem gGvw_of {H b day h : Nat} {can A A1 : Nat → Nat → Bool} {S : Nat → Bool} (hg : gOK H can b day A S A1) (hv0 : gld A h ≤ b) (hh : h < H) (hd : day < 12) (h1 : A h day = true) (hS : S h = true) : gGvw H can b h A S (gau A1 h day false) := by
  obtain ⟨hv, hcv, hrow⟩ := hg
  have hr : A1 h = A h := hrow h hh hS
  have h11 : A1 h day = true := by rw [hr]; exact h1
  have hlf := gld_f hd h11
  have hld : gld A1 h = gld A h := by unfold gld; rw [hr]
  refine ⟨⟨fun i hi d hd' hA => ?_, fun i hi => ?_⟩, fun d hd' => ?_, fun i hi hne hSi => ?_, ?_, fun d hd' hA => ?_⟩
  · by_cases e : i = h ∧ d = day
    · have : gau A1 h day false i d = false := if_pos e
      rw [this] at hA; exact absurd hA (by decide)
    · refine hv.1 i hi d hd' ?_
      have : gau A1 h day false i d = A1 i d := if_neg e
      rw [← this]; exact hA
  · by_cases e : i = h
    · subst e; omega
    · rw [gld_o e]; exact hv.2 i hi
  · have hc1 := hcv d hd'
    by_cases e : d = day
    · subst e
      rw [if_pos rfl] at hc1
      have := gcov_f hh h11
      omega
    · rw [if_neg e] at hc1
      rw [gcov_o e]; omega
  · rw [← hrow i hi hSi]
    funext d
    show (if i = h ∧ d = day then false else A1 i d) = A1 i d
    rw [if_neg (fun z => hne z.1)]
  · omega
  · by_cases e : d = day
    · subst e; exact h1
    · have : gau A1 h day false h d = A1 h d := if_neg (fun z => e z.2)
      rw [this, hr] at hA; exact hA
def gcl5 (H : Nat) (can A : Nat → Nat → Bool) (S : Nat → Bool) (d : Nat) : Prop := ∀ h, h < H → can h d = true → A h d = false → S h = true
theorem gcl5_up {H : Nat} {can A : Nat → Nat → Bool} {S S' : Nat → Bool} {d : Nat} (h : gcl5 H can A S d) (hs : ∀ i, S i = true → S' i = true) : gcl5 H can A S' d := fun i hi hc h0 => hs i (h i hi hc h0)
/-- what is newly seen is full, and its days are closed -/
def gNw (H : Nat) (can : Nat → Nat → Bool) (b : Nat) (A : Nat → Nat → Bool) (S S' : Nat → Bool) : Prop := (∀ i, S i = true → S' i = true) ∧ ∀ h, h < H → S' h = true → ¬ S h = true → b ≤ gld A h ∧ ∀ d, d < 12 → A h d = true → gcl5 H can A S' d
theorem gNw_rf {H : Nat} {can : Nat → Nat → Bool} {b : Nat} {A : Nat → Nat → Bool} {S : Nat → Bool} : gNw H can b A S S := ⟨fun _ h => h, fun _ _ h1 h2 => absurd h1 h2⟩
theorem gNw_tr {H : Nat} {can : Nat → Nat → Bool} {b : Nat} {A : Nat → Nat → Bool} {S S1 S2 : Nat → Bool} (h1 : gNw H can b A S S1) (h2 : gNw H can b A S1 S2) : gNw H can b A S S2 := by
  refine ⟨fun i h => h2.1 i (h1.1 i h), fun h hh hs hn => ?_⟩
  by_cases e : S1 h = true
  · obtain ⟨q1, q2⟩ := h1.2 h hh e hn
    exact ⟨q1, fun d hd hA => gcl5_up (q2 d hd hA) h2.1⟩
  · exact h2.2 h hh hs e
theorem gsu_s {S : Nat → Bool} {h i : Nat} (hs : S i = true) : gsu S h i = true := by
  unfold gsu; split
  · rfl
  · exact hs
theorem gsu_m {S : Nat → Bool} {h : Nat} : gsu S h h = true := if_pos rfl
/-- the failed search of the reference says that it can't be -/
theorem gno1 {H b day : Nat} {can A : Nat → Nat → Bool} {S : Nat → Bool} {dm : Nat → Nat} (hday : day < 12) (hn : gNw H can b A (fun _ => false) S) (hc : gcl5 H can A S day) (hdm : ∀ d, d < 12 → gcov A H d + (if d = day then 1 else 0) ≤ dm d) : ¬ gFe H can b dm := by
  rintro ⟨B, hB1, hB2, hB3⟩
  refine gcut (H := H) (b := b) (day := day) (can := can) (A := A) (B := B) (S := S) (D := fun d => @decide (gcl5 H can A S d) (Classical.propDecidable _)) ?_ ?_ (@decide_eq_true _ (Classical.propDecidable _) hc) hday hB1 hB2 (fun d hd _ => Nat.le_trans (hdm d hd) (hB3 d hd))
  · intro d hd hD h hh hcn h0
    exact (@of_decide_eq_true _ (Classical.propDecidable _) hD) h hh hcn h0
  · intro h hh hS
    obtain ⟨q1, q2⟩ := hn.2 h hh hS (by simp)
    exact ⟨q1, fun d hd hA => @decide_eq_true _ (Classical.propDecidable _) (q2 d hd hA)⟩
/-- how many are not seen -/
def gun (S : Nat → Bool) : Nat := gcnt (fun h => ¬ S h = true) 10
theorem gun_s {S : Nat → Bool} {h : Nat} (hh : h < 10) (hs : ¬ S h = true) : gun S = gun (gsu S h) + 1 := by
  refine gcnt_ins (k := h) hs (fun z => z gsu_m) 10 hh (fun i _ hi => ?_)
  show _ ↔ ¬ (if i = h then true else S i) = true
  rw [if_neg hi]
theorem gun_le {S S' : Nat → Bool} (h : ∀ i, S i = true → S' i = true) : gun S' ≤ gun S := gcnt_mono 10 (fun i _ hi hs => hi (h i hs))
