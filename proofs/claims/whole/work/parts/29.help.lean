/-! ===== numbers in a range, counts, loops ===== -/
def gin (x : Int32) (N : Nat) : Prop := ∃ j, j < N ∧ x = nI j
theorem gin_lt {x : Int32} {N : Nat} (h : x < 0) (hN : N < 2 ^ 31) : ¬ gin x N := by
  rintro ⟨j, hj, rfl⟩
  exact nI_pos (by omega) h
theorem gin_ge {x : Int32} {N : Nat} (h : nI N ≤ x) (hN : N < 2 ^ 31) : ¬ gin x N := by
  rintro ⟨j, hj, rfl⟩
  exact nI_ge hj hN h
theorem gin_gt {x : Int32} {M : Nat} (h : nI M < x) (hN : M < 2 ^ 31) : ¬ gin x (M + 1) := by
  rintro ⟨j, hj, rfl⟩
  have := (nI_ltI (by omega) (by omega)).mp h
  omega
theorem gin_of {x : Int32} {N : Nat} (h0 : ¬ x < 0) (h : ¬ nI N ≤ x) (hN : N < 2 ^ 31) : gin x N := by
  obtain ⟨j, hj, hx⟩ := nI_of h0
  refine ⟨j, ?_, hx⟩
  rw [hx] at h
  have := mt (nI_leI (by omega) (by omega)).mpr h
  omega
theorem gin_of' {x : Int32} {M : Nat} (h0 : ¬ x < 0) (h : ¬ nI M < x) (hN : M < 2 ^ 31) : gin x (M + 1) := by
  obtain ⟨j, hj, hx⟩ := nI_of h0
  refine ⟨j, ?_, hx⟩
  rw [hx] at h
  have := mt (nI_ltI (by omega) (by omega)).mpr h
  omega
theorem nI_inj {i j : Nat} (h : nI i = nI j) (hi : i < 2 ^ 31) (hj : j < 2 ^ 31) : i = j := (nI_eq hi hj).mp h
theorem gin_iff {j N : Nat} (hj : j < 2 ^ 31) (hN : N < 2 ^ 31) : gin (nI j) N ↔ j < N := by
  constructor
  · rintro ⟨i, hi, e⟩
    rw [nI_inj e hj (by omega)]; exact hi
  · exact fun h => ⟨j, h, rfl⟩
def gcnt (p : Nat → Prop) [DecidablePred p] : Nat → Nat
  | 0 => 0
  | n + 1 => gcnt p n + (if p n then 1 else 0)
theorem gcnt_le (p : Nat → Prop) [DecidablePred p] : ∀ n, gcnt p n ≤ n := by
  intro n
  induction n with
  | zero => exact Nat.le_refl _
  | succ n ih => simp only [gcnt]; split <;> omega
theorem gcnt_congr {p p' : Nat → Prop} [DecidablePred p] [DecidablePred p'] : ∀ n, (∀ i, i < n → (p i ↔ p' i)) → gcnt p n = gcnt p' n := by
  intro n
  induction n with
  | zero => intro _; rfl
  | succ n ih =>
    intro h
    simp only [gcnt]
    rw [ih (fun i hi => h i (by omega))]
    have := h n (by omega)
    by_cases e : p n
    · simp [e, this.mp e]
    · simp [e, mt this.mpr e]
theorem g_down {P : Nat → Prop} {N : Nat} (hN : P N) (hs : ∀ i, i < N → P (i + 1) → P i) : ∀ i, i ≤ N → P i := by
  intro i hi
  induction hk : N - i generalizing i with
  | zero =>
    have : i = N := by omega
    rw [this]; exact hN
  | succ k ih => exact hs i (by omega) (ih (i + 1) (by omega) (by omega))
/-- an answer of 0 or 1 -/
def gbo (c : Prop) (S : gS) : Option Value → gS → Prop := fun v S' => ((c ∧ v = some (.int 1)) ∨ (¬ c ∧ v = some (.int 0))) ∧ S' = S
/-- one answer, in that state -/
def gre (x : Int32) (S : gS) : Option Value → gS → Prop := fun v S' => v = some (.int x) ∧ S' = S
theorem gbo_t {c : Prop} {S : gS} (h : c) : gbo c S (some (.int 1)) S := ⟨Or.inl ⟨h, rfl⟩, rfl⟩
theorem gbo_f {c : Prop} {S : gS} (h : ¬ c) : gbo c S (some (.int 0)) S := ⟨Or.inr ⟨h, rfl⟩, rfl⟩
