-- deps: 37 38 39 43
/-! ===== tokens of a tape ===== -/
def kbl (c : Nat) : Bool := decide (c = 10 ∨ c = 32)
def klt (c : Nat) : Bool := decide (97 ≤ c ∧ c ≤ 122)
def kdg (c : Nat) : Bool := decide (48 ≤ c ∧ c ≤ 57)
def ksg (c : Nat) : Bool := decide (c = 40 ∨ c = 41 ∨ c = 60 ∨ c = 61 ∨ c = 43 ∨ c = 45 ∨ c = 59)
def krun (P : Nat → Bool) (f : Nat → Nat) : Nat → Nat → Nat
  | 0, p => p
  | n + 1, p => if P (f p) = true then krun P f n (p + 1) else p
def kend (P : Nat → Bool) (f : Nat → Nat) (len p : Nat) : Nat := krun P f (len - p) p
theorem kend_ge {P : Nat → Bool} {f : Nat → Nat} {len p : Nat} (h : len ≤ p) : kend P f len p = p := by
  unfold kend
  rw [show len - p = 0 by omega]; rfl
theorem kend_t {P : Nat → Bool} {f : Nat → Nat} {len p : Nat} (h : p < len) (hp : P (f p) = true) : kend P f len p = kend P f len (p + 1) := by
  unfold kend
  rw [show len - p = (len - (p + 1)) + 1 by omega]
  simp only [krun]
  rw [if_pos hp]
theorem kend_f {P : Nat → Bool} {f : Nat → Nat} {len p : Nat} (h : p < len) (hp : ¬ P (f p) = true) : kend P f len p = p := by
  unfold kend
  rw [show len - p = (len - (p + 1)) + 1 by omega]
  simp only [krun]
  rw [if_neg hp]
theorem kend_b {P : Nat → Bool} {f : Nat → Nat} {len : Nat} : ∀ (k p : Nat), len - p = k → p ≤ len → p ≤ kend P f len p ∧ kend P f len p ≤ len ∧ (∀ i, p ≤ i → i < kend P f len p → P (f i) = true) ∧ (kend P f len p < len → ¬ P (f (kend P f len p)) = true) := by
  intro k
  induction k with
  | zero =>
    intro p hk hp
    rw [kend_ge (by omega)]
    exact ⟨by omega, by omega, fun i h1 h2 => by omega, fun h => by omega⟩
  | succ k ih =>
    intro p hk hp
    by_cases e : P (f p) = true
    · rw [kend_t (by omega) e]
      obtain ⟨h1, h2, h3, h4⟩ := ih (p + 1) (by omega) (by omega)
      refine ⟨by omega, h2, fun i hi1 hi2 => ?_, h4⟩
      by_cases e2 : i = p
      · subst e2; exact e
      · exact h3 i (by omega) hi2
    · rw [kend_f (by omega) e]
      exact ⟨by omega, by omega, fun i h1 h2 => by omega, fun _ => e⟩
abbrev kspell (f : Nat → Nat) (p e i : Nat) : Prop := ∀ j, j < 8 → (if p + j < e then f (p + j) else 32) = gtx1.getD (8 * i + j) 0
def kfw (f : Nat → Nat) (p e : Nat) : Nat → Nat
  | 0 => 302
  | n + 1 => if kspell f p e (11 - n) then 200 + (11 - n) else kfw f p e n
def kword (f : Nat → Nat) (p e : Nat) : Nat := if 8 < e - p then 302 else kfw f p e 12
def knum (f : Nat → Nat) (p : Nat) : Nat → Nat
  | 0 => 0
  | n + 1 => 10 * knum f p n + (f (p + n) - 48)
def ktk (f : Nat → Nat) (len p : Nat) : kTok × Nat :=
  if len ≤ kend kbl f len p then ((301, 0, len), len)
  else if klt (f (kend kbl f len p)) = true then ((kword f (kend kbl f len p) (kend klt f len (kend kbl f len p)), 0, kend kbl f len p), kend klt f len (kend kbl f len p))
  else if kdg (f (kend kbl f len p)) = true then ((if 4 < kend kdg f len (kend kbl f len p) - kend kbl f len p then 302 else 300, (if 4 < kend kdg f len (kend kbl f len p) - kend kbl f len p then 0 else knum f (kend kbl f len p) (kend kdg f len (kend kbl f len p) - kend kbl f len p)), kend kbl f len p), kend kdg f len (kend kbl f len p))
  else ((if ksg (f (kend kbl f len p)) = true then f (kend kbl f len p) else 302, 0, kend kbl f len p), kend kbl f len p + 1)
def ktoks (f : Nat → Nat) (len : Nat) : Nat → Nat → List kTok
  | 0, _ => [(301, 0, len)]
  | n + 1, p => if (ktk f len p).1.1 = 301 then [(ktk f len p).1] else (ktk f len p).1 :: ktoks f len n (ktk f len p).2
def ktl (f : Nat → Nat) (len p : Nat) : List kTok := ktoks f len (len + 1 - p) p
theorem kfw_r (f : Nat → Nat) (p e : Nat) : ∀ n, n ≤ 12 → kfw f p e n = 302 ∨ (200 ≤ kfw f p e n ∧ kfw f p e n < 212) := by
  intro n
  induction n with
  | zero => intro _; exact Or.inl rfl
  | succ n ih =>
    intro h
    simp only [kfw]
    split
    · exact Or.inr ⟨by omega, by omega⟩
    · exact ih (by omega)
theorem kword_r (f : Nat → Nat) (p e : Nat) : kword f p e = 302 ∨ (200 ≤ kword f p e ∧ kword f p e < 212) := by
  unfold kword
  split
  · exact Or.inl rfl
  · exact kfw_r f p e 12 (Nat.le_refl _)
theorem ktk_end {f : Nat → Nat} {len p : Nat} (h : len ≤ kend kbl f len p) : ktk f len p = ((301, 0, len), len) := by
  unfold ktk; rw [if_pos h]
theorem ktk_ne {f : Nat → Nat} {len p : Nat} (hp : p ≤ len) (h : ¬ len ≤ kend kbl f len p) : (ktk f len p).1.1 ≠ 301 ∧ p < (ktk f len p).2 ∧ (ktk f len p).2 ≤ len := by
  obtain ⟨b1, b2, b3, b4⟩ := kend_b (P := kbl) (f := f) (len := len) (len - p) p rfl hp
  unfold ktk
  rw [if_neg h]
  generalize kend kbl f len p = q at *
  split
  · rename_i hl
    obtain ⟨c1, c2, c3, c4⟩ := kend_b (P := klt) (f := f) (len := len) (len - (q + 1)) (q + 1) rfl (by omega)
    rw [kend_t (by omega) hl]
    have := kword_r f q (kend klt f len (q + 1))
    exact ⟨by simp only; omega, by simp only; omega, by simp only; omega⟩
  · split
    · rename_i hl
      obtain ⟨c1, c2, c3, c4⟩ := kend_b (P := kdg) (f := f) (len := len) (len - (q + 1)) (q + 1) rfl (by omega)
      rw [kend_t (by omega) hl]
      exact ⟨by simp only; split <;> omega, by simp only; omega, by simp only; omega⟩
    · refine ⟨?_, by simp only; omega, by simp only; omega⟩
      simp only
      split
      · rename_i hs
        have := of_decide_eq_true hs
        omega
      · omega
theorem ktoks_fuel {f : Nat → Nat} {len : Nat} : ∀ (n m p : Nat), p ≤ len → len + 1 - p ≤ n → len + 1 - p ≤ m → ktoks f len n p = ktoks f len m p := by
  intro n
  induction n with
  | zero => intro m p h1 h2 h3; omega
  | succ n ih =>
    intro m p h1 h2 h3
    cases m with
    | zero => omega
    | succ m =>
      simp only [ktoks]
      by_cases e : len ≤ kend kbl f len p
      · rw [ktk_end e, if_pos rfl, if_pos rfl]
      · obtain ⟨k1, k2, k3⟩ := ktk_ne h1 e
        rw [if_neg k1, if_neg k1, ih m _ k3 (by omega) (by omega)]
theorem ktl_e {f : Nat → Nat} {len p : Nat} (hp : p ≤ len) (h : len ≤ kend kbl f len p) : ktl f len p = [(301, 0, len)] := by
  unfold ktl
  rw [show len + 1 - p = (len - p) + 1 by omega]
  simp only [ktoks]
  rw [ktk_end h, if_pos rfl]
theorem ktl_c {f : Nat → Nat} {len p : Nat} (hp : p ≤ len) (h : ¬ len ≤ kend kbl f len p) : ktl f len p = (ktk f len p).1 :: ktl f len (ktk f len p).2 := by
  obtain ⟨k1, k2, k3⟩ := ktk_ne hp h
  unfold ktl
  rw [show len + 1 - p = (len - p) + 1 by omega]
  conv => lhs; unfold ktoks
  rw [if_neg k1, ktoks_fuel (len - p) (len + 1 - (ktk f len p).2) _ k3 (by omega) (by omega)]
theorem knum_lt {f : Nat → Nat} {p : Nat} : ∀ n, (∀ j, j < n → kdg (f (p + j)) = true) → knum f p n < 10 ^ n := by
  intro n
  induction n with
  | zero => intro _; exact Nat.one_pos
  | succ n ih =>
    intro h
    have h1 := ih (fun j hj => h j (by omega))
    have h2 := of_decide_eq_true (h n (by omega))
    simp only [knum]
    rw [Nat.pow_succ]
    omega
theorem ktk_num {f : Nat → Nat} {len p : Nat} (hp : p ≤ len) : (ktk f len p).1.1 = 300 → (ktk f len p).1.2.1 < 10000 := by
  obtain ⟨b1, b2, b3, b4⟩ := kend_b (P := kbl) (f := f) (len := len) (len - p) p rfl hp
  unfold ktk
  generalize kend kbl f len p = q at *
  split
  · intro h; simp at h
  · split
    · intro h
      have := kword_r f q (kend klt f len q)
      simp only at h
      omega
    · split
      · intro h
        simp only at h ⊢
        split
        · omega
        · rename_i h4
          obtain ⟨c1, c2, c3, c4⟩ := kend_b (P := kdg) (f := f) (len := len) (len - q) q rfl b2
          have := knum_lt (f := f) (p := q) (kend kdg f len q - q) (fun j hj => c3 (q + j) (by omega) (by omega))
          have h5 : 10 ^ (kend kdg f len q - q) ≤ 10 ^ 4 := Nat.pow_le_pow_right (by omega) (by omega)
          have : (10 : Nat) ^ 4 = 10000 := by decide
          omega
      · intro h
        simp only at h
        split at h
        · rename_i hs
          have := of_decide_eq_true hs
          omega
        · omega
theorem ktl_ok {f : Nat → Nat} {len : Nat} : ∀ (k p : Nat), p ≤ len → len - p ≤ k → kTsok (ktl f len p) ∧ (ktl f len p).length ≤ len - p + 1 := by
  intro k
  induction k using Nat.strongRecOn with
  | _ k ih =>
    intro p hp hk
    by_cases e : len ≤ kend kbl f len p
    · rw [ktl_e hp e]
      refine ⟨⟨by simp, fun t ht h => ?_, fun _ => ⟨rfl, fun t ht => by simp at ht⟩⟩, by simp⟩
      simp only [List.mem_singleton] at ht
      subst ht
      simp at h
    · obtain ⟨k1, k2, k3⟩ := ktk_ne hp e
      rw [ktl_c hp e]
      obtain ⟨⟨q1, q2, q3⟩, q4⟩ := ih (len - (ktk f len p).2) (by omega) (ktk f len p).2 k3 (Nat.le_refl _)
      refine ⟨⟨by simp, fun t ht h => ?_, fun _ => ?_⟩, by simp only [List.length_cons]; omega⟩
      · simp only [List.mem_cons] at ht
        rcases ht with rfl | ht
        · exact ktk_num hp h
        · exact q2 t ht h
      · obtain ⟨r1, r2⟩ := q3 q1
        refine ⟨by rw [List.getLast_cons q1]; exact r1, fun t ht => ?_⟩
        rw [List.dropLast_cons_of_ne_nil q1] at ht
        simp only [List.mem_cons] at ht
        rcases ht with rfl | ht
        · exact k1
        · exact r2 t ht
theorem ktl_ne {f : Nat → Nat} {len p : Nat} (hp : p ≤ len) : kTsok (ktl f len p) ∧ (ktl f len p).length ≤ len - p + 1 := ktl_ok (len - p) p hp (Nat.le_refl _)
/-! words by a number -/
def khs (g : Nat → Nat) : Nat → Nat
  | 0 => 0
  | n + 1 => 37 * khs g n + g n
theorem khs_inj {g g' : Nat → Nat} : ∀ (n m : Nat), (∀ j, j < n → 1 ≤ g j ∧ g j < 37) → (∀ j, j < m → 1 ≤ g' j ∧ g' j < 37) → khs g n = khs g' m → n = m ∧ ∀ j, j < n → g j = g' j := by
  intro n
  induction n with
  | zero =>
    intro m _ h2 h
    cases m with
    | zero => exact ⟨rfl, fun j hj => by omega⟩
    | succ m =>
      have := h2 m (by omega)
      simp only [khs] at h
      omega
  | succ n ih =>
    intro m h1 h2 h
    cases m with
    | zero =>
      have := h1 n (by omega)
      simp only [khs] at h
      omega
    | succ m =>
      have e1 := h1 n (by omega)
      have e2 := h2 m (by omega)
      simp only [khs] at h
      obtain ⟨q1, q2⟩ := ih m (fun j hj => h1 j (by omega)) (fun j hj => h2 j (by omega)) (by omega)
      subst q1
      refine ⟨rfl, fun j hj => ?_⟩
      by_cases e : j = n
      · subst e; omega
      · exact q2 j (by omega)
theorem khs_congr {g g' : Nat → Nat} : ∀ (n : Nat), (∀ j, j < n → g j = g' j) → khs g n = khs g' n := by
  intro n
  induction n with
  | zero => intro _; rfl
  | succ n ih => intro h; simp only [khs]; rw [ih (fun j hj => h j (by omega)), h n (by omega)]
theorem khs_lt {g : Nat → Nat} : ∀ (n : Nat), (∀ j, j < n → g j < 37) → khs g n < 37 ^ n := by
  intro n
  induction n with
  | zero => intro _; exact Nat.one_pos
  | succ n ih =>
    intro h
    have h1 := ih (fun j hj => h j (by omega))
    have h2 := h n (by omega)
    simp only [khs]
    rw [Nat.pow_succ]
    omega
def kwl : List Nat := [5, 5, 3, 4, 4, 3, 4, 5, 6, 3, 4, 5]
def kwd : List Nat := [36021578, 36643325, 24686, 628937, 1176170, 1891, 570026, 36624233, 1326983221, 19744, 103383, 13605325]
theorem kwl_8 : ∀ i, i < 12 → 0 < kwl.getD i 0 ∧ kwl.getD i 0 < 8 := by decide +kernel
theorem kwl_t : ∀ i, i < 12 → ∀ j, j < 8 → (j < kwl.getD i 0 → 97 ≤ gtx1.getD (8 * i + j) 0 ∧ gtx1.getD (8 * i + j) 0 ≤ 122) ∧ (¬ j < kwl.getD i 0 → gtx1.getD (8 * i + j) 0 = 32) := by decide +kernel
theorem kwd_h : ∀ i, i < 12 → khs (fun j => gtx1.getD (8 * i + j) 0 - 96) (kwl.getD i 0) = kwd.getD i 0 := by decide +kernel
theorem kwd_ne : ∀ i, i < 12 → ∀ j, j < 12 → kwd.getD i 0 = kwd.getD j 0 → i = j := by decide +kernel
theorem kspell_iff {f : Nat → Nat} {p e i : Nat} (hi : i < 12) (h8 : e - p ≤ 8) (hpe : p ≤ e) (hl : ∀ j, j < e - p → klt (f (p + j)) = true) : kspell f p e i ↔ khs (fun j => f (p + j) - 96) (e - p) = kwd.getD i 0 := by
  have hw := kwl_8 i hi
  constructor
  · intro h
    have e1 : e - p = kwl.getD i 0 := by
      rcases Nat.lt_trichotomy (e - p) (kwl.getD i 0) with hlt | heq | hgt
      · have h1 := h (e - p) (by omega)
        rw [if_neg (by omega)] at h1
        have := (kwl_t i hi (e - p) (by omega)).1 hlt
        omega
      · exact heq
      · have h1 := h (kwl.getD i 0) hw.2
        rw [if_pos (by omega)] at h1
        have h2 := of_decide_eq_true (hl (kwl.getD i 0) (by omega))
        have := (kwl_t i hi (kwl.getD i 0) hw.2).2 (by omega)
        omega
    rw [← kwd_h i hi, e1]
    refine khs_congr _ (fun j hj => ?_)
    have h1 := h j (by omega)
    rw [if_pos (by omega)] at h1
    rw [h1]
  · intro h
    rw [← kwd_h i hi] at h
    obtain ⟨q1, q2⟩ := khs_inj (e - p) (kwl.getD i 0) (fun j hj => by have := of_decide_eq_true (hl j hj); omega) (fun j hj => by have := (kwl_t i hi j (by omega)).1 hj; omega) h
    intro j hj
    by_cases e2 : p + j < e
    · rw [if_pos e2]
      have h1 := q2 j (by omega)
      have h2 := of_decide_eq_true (hl j (by omega))
      have h3 := (kwl_t i hi j hj).1 (by omega)
      omega
    · rw [if_neg e2, (kwl_t i hi j hj).2 (by omega)]
theorem kfw_iff {f : Nat → Nat} {p e i : Nat} (hi : i < 12) (h8 : e - p ≤ 8) (hpe : p ≤ e) (hl : ∀ j, j < e - p → klt (f (p + j)) = true) : ∀ n, n ≤ 12 → 12 - n ≤ i → (kfw f p e n = 200 + i ↔ khs (fun j => f (p + j) - 96) (e - p) = kwd.getD i 0) := by
  intro n
  induction n with
  | zero => intro _ h; omega
  | succ n ih =>
    intro hn hle
    simp only [kfw]
    have hk := kspell_iff (f := f) (p := p) (e := e) (i := 11 - n) (by omega) h8 hpe hl
    by_cases e2 : kspell f p e (11 - n)
    · rw [if_pos e2]
      constructor
      · intro h
        have : i = 11 - n := by omega
        rw [this]; exact hk.mp e2
      · intro h
        have := kwd_ne i hi (11 - n) (by omega) (h.symm.trans (hk.mp e2))
        omega
    · rw [if_neg e2]
      by_cases e3 : 12 - n ≤ i
      · exact ih (by omega) e3
      · have e4 : i = 11 - n := by omega
        constructor
        · intro h
          exfalso
          -- a later word would have to be i
          have : ∀ m, m ≤ n → kfw f p e m ≠ 200 + i := by
            intro m
            induction m with
            | zero => intro _ h; simp only [kfw] at h; omega
            | succ m ihm =>
              intro hm h
              simp only [kfw] at h
              split at h
              · omega
              · exact ihm (by omega) h
          exact this n (Nat.le_refl _) h
        · intro h
          exact absurd (hk.mpr (e4 ▸ h)) e2
theorem kword_iff {f : Nat → Nat} {p e i : Nat} (hi : i < 12) (h8 : e - p ≤ 8) (hpe : p ≤ e) (hl : ∀ j, j < e - p → klt (f (p + j)) = true) : kword f p e = 200 + i ↔ khs (fun j => f (p + j) - 96) (e - p) = kwd.getD i 0 := by
  unfold kword
  rw [if_neg (by omega)]
  exact kfw_iff hi h8 hpe hl 12 (Nat.le_refl _) (by omega)
