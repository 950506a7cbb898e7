-- deps: 37 38 39
/-! ===== the van's round, and the reference's ===== -/
def gmin5 (c : Nat → Bool) (v : Nat → Nat) : Nat → Nat
  | 0 => 1000000
  | s + 1 => if c s = true then (if v s < gmin5 c v s then v s else gmin5 c v s) else gmin5 c v s
def kG (wy : Nat → Nat → Nat) : Nat → Nat → Nat → Nat
  | 0, p, _ => wy p 5
  | f + 1, p, P => if P = 0 then wy p 5 else gmin5 (fun s => P.testBit s) (fun s => wy p s + kG wy f s (P ^^^ 2 ^ s)) 5
theorem gmin5_congr {c : Nat → Bool} {v v' : Nat → Nat} : ∀ n, (∀ s, s < n → c s = true → v s = v' s) → gmin5 c v n = gmin5 c v' n := by
  intro n
  induction n with
  | zero => intro _; rfl
  | succ n ih =>
    intro h
    simp only [gmin5]
    rw [ih (fun s hs => h s (by omega))]
    by_cases e : c n = true
    · rw [if_pos e, if_pos e, h n (by omega) e]
    · rw [if_neg e, if_neg e]
theorem gmin5_le {c : Nat → Bool} {v : Nat → Nat} {s : Nat} : ∀ n, s < n → c s = true → gmin5 c v n ≤ v s := by
  intro n
  induction n with
  | zero => intro h; omega
  | succ n ih =>
    intro hs hc
    simp only [gmin5]
    by_cases e : s = n
    · subst e; rw [if_pos hc]; split <;> omega
    · have := ih (by omega) hc
      split
      · split <;> omega
      · exact this
theorem gmin5_top {c : Nat → Bool} {v : Nat → Nat} : ∀ n, gmin5 c v n ≤ 1000000 := by
  intro n
  induction n with
  | zero => exact Nat.le_refl _
  | succ n ih =>
    simp only [gmin5]
    split
    · split <;> omega
    · exact ih
theorem gxor_lt : ∀ P, P < 32 → ∀ s, s < 5 → P.testBit s = true → P ^^^ 2 ^ s < P := by decide +kernel
theorem gbit_ex : ∀ P, P < 32 → P ≠ 0 → ∃ s, s < 5 ∧ P.testBit s = true := by decide +kernel
theorem kG_fuel {wy : Nat → Nat → Nat} : ∀ (f f' p P : Nat), P < 32 → P ≤ f → P ≤ f' → kG wy f p P = kG wy f' p P := by
  intro f
  induction f with
  | zero =>
    intro f' p P h32 h1 h2
    have : P = 0 := by omega
    subst this
    cases f' with
    | zero => rfl
    | succ f' => simp only [kG, if_true]
  | succ f ih =>
    intro f' p P h32 h1 h2
    by_cases e : P = 0
    · subst e
      cases f' with
      | zero => simp only [kG, if_true]
      | succ f' => simp only [kG, if_true]
    · cases f' with
      | zero => omega
      | succ f' =>
        simp only [kG, if_neg e]
        refine gmin5_congr 5 (fun s hs hc => ?_)
        have hlt := gxor_lt P h32 s hs hc
        rw [ih f' s (P ^^^ 2 ^ s) (by omega) (by omega) (by omega)]
/-- the way from p through P to the depot -/
def gGo (wy : Nat → Nat → Nat) (p P : Nat) : Nat := kG wy P p P
theorem gGo_0 (wy : Nat → Nat → Nat) (p : Nat) : gGo wy p 0 = wy p 5 := rfl
theorem gGo_s {wy : Nat → Nat → Nat} {p P : Nat} (h32 : P < 32) (h0 : P ≠ 0) : gGo wy p P = gmin5 (fun s => P.testBit s) (fun s => wy p s + gGo wy s (P ^^^ 2 ^ s)) 5 := by
  unfold gGo
  cases P with
  | zero => exact absurd rfl h0
  | succ P =>
    conv => lhs; unfold kG
    rw [if_neg h0]
    refine gmin5_congr 5 (fun s hs hc => ?_)
    have hlt := gxor_lt (P + 1) h32 s hs hc
    rw [kG_fuel P ((P + 1) ^^^ 2 ^ s) s _ (by omega) (by omega) (by omega)]
theorem gGo_le {wy : Nat → Nat → Nat} (hw : ∀ i, i < 6 → ∀ j, j < 6 → wy i j < 100) : ∀ P, P < 32 → ∀ p, p < 6 → gGo wy p P ≤ 100 * (P + 1) := by
  intro P
  induction P using Nat.strongRecOn with
  | _ P ih =>
    intro h32 p hp
    by_cases e : P = 0
    · subst e; rw [gGo_0]; have := hw p hp 5 (by omega); omega
    · rw [gGo_s h32 e]
      obtain ⟨s, hs, hc⟩ := gbit_ex P h32 e
      have h1 := gmin5_le (c := fun s => P.testBit s) (v := fun s => wy p s + gGo wy s (P ^^^ 2 ^ s)) 5 hs hc
      have hlt := gxor_lt P h32 s hs hc
      have h2 := ih (P ^^^ 2 ^ s) hlt (by omega) s (by omega)
      have h3 := hw p hp s (by omega)
      omega
/-- the round, as both find it -/
def gRo (wy : Nat → Nat → Nat) (P : Nat) : Nat := if P = 0 then 0 else gGo wy 5 P
theorem gclr {P s : Nat} (hs : s < 32) (hP : P < 32) (h : P.testBit s = true) : nI P &&& (1 <<< (nI s &&& 31) ^^^ -1) = nI (P ^^^ 2 ^ s) := by
  refine b_ext (fun i hi => ?_)
  rw [bt_clr hs hi, bt_nI hi, bt_nI hi, Nat.testBit_xor, Nat.testBit_two_pow]
  by_cases e : i = s
  · subst e; simp [h]
  · have e2 : ¬ s = i := fun z => e z.symm
    simp [e, e2]
def gwy (a : Nat → Nat → Int32) (row : Nat) (wy : Nat → Nat → Nat) : Prop := ∀ i, i < 6 → ∀ j, j < 6 → a row (6 * i + j) = nI (wy i j)
section GM12
variable {w a : Nat → Nat → Int32} {b : Nat → Nat → Int64} {r : Nat → Nat → Nat} {q : Nat → Nat → Option Nat} {y : gH} {n u : Nat}
theorem m_goes {wy : Nat → Nat → Nat} (hwy : gwy a 79 wy) (hw : ∀ i, i < 6 → ∀ j, j < 6 → wy i j < 100) : ∀ P, P < 32 → ∀ (d p : Nat), P + 1 ≤ d → p < 6 → (P = 0 → p ≠ 5) → gE d 149 [.ref 44, .int (nI p), .int (nI P)] (n, u, HP w a b r q y) (gre (nI (gGo wy p P)) (n, u, HP w a b r q y)) := by
  intro P
  induction P using Nat.strongRecOn with
  | _ P ih =>
    intro h32 d p hd hp hp0
    have hk : gMT[149]? = some gro_149 := rfl
    refine r_in hk [some (.ref 44), some (.int (nI p)), some (.int (nI P)), none, none, none] (Nat.le_of_ble_eq_true rfl) rfl ?_
    by_cases e : P = 0
    · subst e
      have hp5 : ¬ nI p = 5 := fun z => hp0 rfl (nI_inj (j := 5) z (by omega) (by omega))
      iterate 2 refine r_step hk rfl rfl rfl ?_
      refine r_ne (fun hq9 => absurd (show nI 0 = 0 from rfl) hq9) (fun _ => ?_)
      iterate 3 refine r_step hk rfl rfl rfl ?_
      refine r_ne (fun _ => ?_) (fun hq9 => absurd hq9 hp5)
      iterate 7 refine r_step hk rfl rfl rfl ?_
      refine r_ia hk (6 * p + 5) rfl rfl (nI_6 p 5) (by omega) rfl ?_
      refine r_iret hk rfl trivial ?_
      exact ⟨by rw [hwy p hp 5 (by omega), gGo_0], rfl⟩
    · have hP0 : ¬ nI P = 0 := nI_ne0 (by omega) (by omega)
      have hval : ∀ s, s < 5 → P.testBit s = true → wy p s + gGo wy s (P ^^^ 2 ^ s) < 1000000 := by
        intro s hs hc
        have hlt := gxor_lt P h32 s hs hc
        have h2 := gGo_le hw (P ^^^ 2 ^ s) (by omega) s (by omega)
        have h3 := hw p hp s (by omega)
        omega
      have loop : ∀ s, s ≤ 5 → ∀ (x z : Int32) (l5 : Option Value), z = nI s → x = (if gmin5 (fun s => P.testBit s) (fun s => wy p s + gGo wy s (P ^^^ 2 ^ s)) s = 1000000 then -1 else nI (gmin5 (fun s => P.testBit s) (fun s => wy p s + gGo wy s (P ^^^ 2 ^ s)) s)) → gX d 149 30 [some (.ref 44), some (.int (nI p)), some (.int (nI P)), some (.int x), some (.int z), l5] [] (n, u, HP w a b r q y) (gre (nI (gGo wy p P)) (n, u, HP w a b r q y)) := by
        refine g_down ?_ ?_
        · intro x z l5 hz hx
          subst hz
          obtain ⟨s, hs, hc⟩ := gbit_ex P h32 e
          have h1 := gmin5_le (c := fun s => P.testBit s) (v := fun s => wy p s + gGo wy s (P ^^^ 2 ^ s)) 5 hs hc
          have h2 := hval s hs hc
          rw [if_neg (by omega), ← gGo_s h32 e] at hx
          iterate 3 refine r_step hk rfl rfl rfl ?_
          refine r_ge (fun _ => ?_) (fun hq9 => absurd (by decide) hq9)
          refine r_step hk rfl rfl rfl ?_
          refine r_iret hk rfl trivial ?_
          exact ⟨by rw [hx], rfl⟩
        · intro s hs ih2 x z l5 hz hx
          subst hz
          have htp := gmin5_top (c := fun s => P.testBit s) (v := fun s => wy p s + gGo wy s (P ^^^ 2 ^ s)) s
          have h33 : ¬ (5 : Int32) ≤ nI s := nI_ge (b := 5) hs (by decide)
          have hbt : ((nI P >>> (nI s &&& 31)) &&& 1 = 1) ↔ P.testBit s = true := by rw [bt_test1 (by omega), bt_nI (by omega)]
          by_cases hc : P.testBit s = true
          · have hlt := gxor_lt P h32 s hs hc
            have hv := hval s hs hc
            have hm : gmin5 (fun s => P.testBit s) (fun s => wy p s + gGo wy s (P ^^^ 2 ^ s)) (s + 1) = if wy p s + gGo wy s (P ^^^ 2 ^ s) < gmin5 (fun s => P.testBit s) (fun s => wy p s + gGo wy s (P ^^^ 2 ^ s)) s then wy p s + gGo wy s (P ^^^ 2 ^ s) else gmin5 (fun s => P.testBit s) (fun s => wy p s + gGo wy s (P ^^^ 2 ^ s)) s := by
              conv => lhs; unfold gmin5
              simp only [hc, if_true]
            generalize hM : gmin5 (fun s => P.testBit s) (fun s => wy p s + gGo wy s (P ^^^ 2 ^ s)) s = M at *
            generalize hV : wy p s + gGo wy s (P ^^^ 2 ^ s) = V at *
            have esum : a 79 (6 * p + s) + nI (gGo wy s (P ^^^ 2 ^ s)) = nI V := by rw [hwy p hp s (by omega), nI_add, hV]
            have hE : gE (d - 1) 149 [.ref 44, .int (nI s), .int (nI P &&& (1 <<< (nI s &&& 31) ^^^ -1))] (n, u, HP w a b r q y) (gre (nI (gGo wy s (P ^^^ 2 ^ s))) (n, u, HP w a b r q y)) := by
              rw [gclr (by omega) h32 hc]
              exact ih (P ^^^ 2 ^ s) hlt (by omega) (d - 1) s (by omega) (by omega) (fun _ => by omega)
            iterate 3 refine r_step hk rfl rfl rfl ?_
            refine r_ge (fun hq9 => absurd hq9 h33) (fun _ => ?_)
            iterate 7 refine r_step hk rfl rfl rfl ?_
            refine r_ne (fun hq9 => absurd (hbt.mpr hc) hq9) (fun _ => ?_)
            iterate 7 refine r_step hk rfl rfl rfl ?_
            refine r_ia hk (6 * p + s) rfl rfl (nI_6 p s) (by omega) rfl ?_
            iterate 9 refine r_step hk rfl rfl rfl ?_
            refine r_callV hk [.ref 44, .int (nI s), .int (nI P &&& (1 <<< (nI s &&& 31) ^^^ -1))] [.int (a 79 (6 * p + s))] rfl rfl rfl rfl rfl rfl rfl (by omega) hE ?_
            rintro _ _ ⟨rfl, rfl⟩
            iterate 4 refine r_step hk rfl rfl rfl ?_
            refine r_lt (fun h76 => ?_) (fun h76 => ?_)
            · iterate 5 refine r_step hk rfl rfl rfl ?_
              refine ih2 _ _ _ (nI_1 s) ?_
              rw [hm]
              first | (rw [esum]; by_cases hMt : M = 1000000; (rw [if_pos (by omega : V < M), if_neg (by omega : ¬ V = 1000000)]); (exfalso; rw [if_neg hMt] at hx; rw [hx] at h76; exact nI_pos (by omega) h76)) | (by_cases hMt : M = 1000000; (exfalso; rw [if_pos hMt] at hx; rw [hx] at h76; exact h76 (by decide)); (have hge : M ≤ V := (by rw [if_neg hMt] at hx; have h82' : x ≤ a 79 (6 * p + s) + nI (gGo wy s (P ^^^ 2 ^ s)) := h82; rw [esum, hx] at h82'; exact (nI_leI (by omega) (by omega)).mp h82'); rw [if_neg (by omega : ¬ V < M), if_neg hMt, hx, if_neg hMt])) | (rw [esum]; by_cases hMt : M = 1000000; (exfalso; rw [if_pos hMt] at hx; rw [hx] at h76; exact h76 (by decide)); (have hlt2 : V < M := (by rw [if_neg hMt] at hx; have h82' : ¬ x ≤ a 79 (6 * p + s) + nI (gGo wy s (P ^^^ 2 ^ s)) := h82; rw [esum, hx] at h82'; exact Nat.lt_of_not_le (fun hle => h82' (nI_le hle (by omega)))); rw [if_pos hlt2, if_neg (by omega : ¬ V = 1000000)]))
            · iterate 3 refine r_step hk rfl rfl rfl ?_
              refine r_ge (fun h82 => ?_) (fun h82 => ?_)
              · iterate 4 refine r_step hk rfl rfl rfl ?_
                refine ih2 _ _ _ (nI_1 s) ?_
                rw [hm]
                first | (rw [esum]; by_cases hMt : M = 1000000; (rw [if_pos (by omega : V < M), if_neg (by omega : ¬ V = 1000000)]); (exfalso; rw [if_neg hMt] at hx; rw [hx] at h76; exact nI_pos (by omega) h76)) | (by_cases hMt : M = 1000000; (exfalso; rw [if_pos hMt] at hx; rw [hx] at h76; exact h76 (by decide)); (have hge : M ≤ V := (by rw [if_neg hMt] at hx; have h82' : x ≤ a 79 (6 * p + s) + nI (gGo wy s (P ^^^ 2 ^ s)) := h82; rw [esum, hx] at h82'; exact (nI_leI (by omega) (by omega)).mp h82'); rw [if_neg (by omega : ¬ V < M), if_neg hMt, hx, if_neg hMt])) | (rw [esum]; by_cases hMt : M = 1000000; (exfalso; rw [if_pos hMt] at hx; rw [hx] at h76; exact h76 (by decide)); (have hlt2 : V < M := (by rw [if_neg hMt] at hx; have h82' : ¬ x ≤ a 79 (6 * p + s) + nI (gGo wy s (P ^^^ 2 ^ s)) := h82; rw [esum, hx] at h82'; exact Nat.lt_of_not_le (fun hle => h82' (nI_le hle (by omega)))); rw [if_pos hlt2, if_neg (by omega : ¬ V = 1000000)]))
              · iterate 5 refine r_step hk rfl rfl rfl ?_
                refine ih2 _ _ _ (nI_1 s) ?_
                rw [hm]
                first | (rw [esum]; by_cases hMt : M = 1000000; (rw [if_pos (by omega : V < M), if_neg (by omega : ¬ V = 1000000)]); (exfalso; rw [if_neg hMt] at hx; rw [hx] at h76; exact nI_pos (by omega) h76)) | (by_cases hMt : M = 1000000; (exfalso; rw [if_pos hMt] at hx; rw [hx] at h76; exact h76 (by decide)); (have hge : M ≤ V := (by rw [if_neg hMt] at hx; have h82' : x ≤ a 79 (6 * p + s) + nI (gGo wy s (P ^^^ 2 ^ s)) := h82; rw [esum, hx] at h82'; exact (nI_leI (by omega) (by omega)).mp h82'); rw [if_neg (by omega : ¬ V < M), if_neg hMt, hx, if_neg hMt])) | (rw [esum]; by_cases hMt : M = 1000000; (exfalso; rw [if_pos hMt] at hx; rw [hx] at h76; exact h76 (by decide)); (have hlt2 : V < M := (by rw [if_neg hMt] at hx; have h82' : ¬ x ≤ a 79 (6 * p + s) + nI (gGo wy s (P ^^^ 2 ^ s)) := h82; rw [esum, hx] at h82'; exact Nat.lt_of_not_le (fun hle => h82' (nI_le hle (by omega)))); rw [if_pos hlt2, if_neg (by omega : ¬ V = 1000000)]))
          · have hm : gmin5 (fun s => P.testBit s) (fun s => wy p s + gGo wy s (P ^^^ 2 ^ s)) (s + 1) = gmin5 (fun s => P.testBit s) (fun s => wy p s + gGo wy s (P ^^^ 2 ^ s)) s := by
              conv => lhs; unfold gmin5
              rw [if_neg hc]
            iterate 3 refine r_step hk rfl rfl rfl ?_
            refine r_ge (fun hq9 => absurd hq9 h33) (fun _ => ?_)
            iterate 7 refine r_step hk rfl rfl rfl ?_
            refine r_ne (fun _ => ?_) (fun hq9 => absurd hq9 (mt hbt.mp hc))
            iterate 2 refine r_step hk rfl rfl rfl ?_
            exact ih2 _ _ _ (nI_1 s) (by rw [hm]; exact hx)
      iterate 2 refine r_step hk rfl rfl rfl ?_
      refine r_ne (fun _ => ?_) (fun hq9 => absurd hq9 hP0)
      iterate 4 refine r_step hk rfl rfl rfl ?_
      exact loop 0 (Nat.zero_le _) _ _ _ rfl rfl
theorem m_round {d : Nat} (hd : 40 ≤ d) {wy : Nat → Nat → Nat} (hwy : gwy a 79 wy) (hw : ∀ i, i < 6 → ∀ j, j < 6 → wy i j < 100) (x : Int32) : gE d 148 [.ref 44, .int x] (n, u, HP w a b r q y) (fun v S' => S' = (n, u, HP (gTh w) a b r q y) ∧ ((∃ P, P < 32 ∧ x = nI P ∧ v = some (.int (nI (gRo wy P)))) ∨ (¬ gin x 32 ∧ v = some (.int (-1))))) := by
  have hk : gMT[148]? = some gro_148 := rfl
  refine r_in hk [some (.ref 44), some (.int x)] (Nat.le_of_ble_eq_true rfl) rfl ?_
  have go : ∀ P, P < 32 → x = nI P → gE (d - 1) 149 [.ref 44, .int 5, .int x] (n, u, HP (gTh w) a b r q y) (gre (nI (gRo wy P)) (n, u, HP (gTh w) a b r q y)) := by
    intro P hP hx
    subst hx
    by_cases e : P = 0
    · subst e
      have hk : gMT[149]? = some gro_149 := rfl
      refine r_in hk [some (.ref 44), some (.int 5), some (.int (nI 0)), none, none, none] (Nat.le_of_ble_eq_true rfl) rfl ?_
      iterate 2 refine r_step hk rfl rfl rfl ?_
      refine r_ne (fun hq9 => absurd (show nI 0 = 0 from rfl) hq9) (fun _ => ?_)
      iterate 3 refine r_step hk rfl rfl rfl ?_
      refine r_ne (fun hq9 => absurd (show (5 : Int32) = 5 from rfl) hq9) (fun _ => ?_)
      iterate 2 refine r_step hk rfl rfl rfl ?_
      refine r_iret hk rfl trivial ?_
      exact ⟨rfl, rfl⟩
    · unfold gRo
      rw [if_neg e]
      exact m_goes hwy hw P hP (d - 1) 5 (by omega) (by omega) (fun z => absurd z e)
  iterate 2 refine r_step hk rfl rfl rfl ?_
  refine r_putI hk rfl rfl rfl rfl ?_
  iterate 2 refine r_step hk rfl rfl rfl ?_
  refine r_lt (fun h6 => ?_) (fun h6 => ?_)
  · iterate 2 refine r_step hk rfl rfl rfl ?_
    refine r_iret hk rfl trivial ?_
    first | exact ⟨rfl, Or.inr ⟨gin_lt h6 (by decide), rfl⟩⟩ | exact ⟨rfl, Or.inr ⟨gin_gt (M := 31) (Int32.not_le.mp h12) (by decide), rfl⟩⟩
  · iterate 3 refine r_step hk rfl rfl rfl ?_
    refine r_le (fun h12 => ?_) (fun h12 => ?_)
    · obtain ⟨P, hP, hx⟩ := gin_of' (M := 31) h6 (Int32.not_lt.mpr h12) (by decide)
      skip
      iterate 3 refine r_step hk rfl rfl rfl ?_
      refine r_callV hk [.ref 44, .int 5, .int x] [] rfl rfl rfl rfl rfl rfl rfl (by omega) (go P hP hx) ?_
      rintro _ _ ⟨rfl, rfl⟩
      refine r_iret hk rfl trivial ?_
      exact ⟨rfl, Or.inl ⟨P, hP, hx, rfl⟩⟩
    · iterate 2 refine r_step hk rfl rfl rfl ?_
      refine r_iret hk rfl trivial ?_
      first | exact ⟨rfl, Or.inr ⟨gin_lt h6 (by decide), rfl⟩⟩ | exact ⟨rfl, Or.inr ⟨gin_gt (M := 31) (Int32.not_le.mp h12) (by decide), rfl⟩⟩
end GM12
