/-! ===== the reference: counts ===== -/
theorem gcnt_t {p : Nat → Prop} [DecidablePred p] {t : Nat} {x : Int32} (hx : x = nI (gcnt p t)) (h : p t) : x + 1 = nI (gcnt p (t + 1)) := by
  simp only [gcnt, if_pos h]
  rw [hx]; exact nI_1 _
theorem gcnt_f {p : Nat → Prop} [DecidablePred p] {t : Nat} {x : Int32} (hx : x = nI (gcnt p t)) (h : ¬ p t) : x + 0 = nI (gcnt p (t + 1)) := by
  simp only [gcnt, if_neg h, Nat.add_zero]
  rw [hx]; exact Int32.add_zero _
theorem nI_s {t : Nat} {z : Int32} (hz : z = nI t) : z + 1 = nI (t + 1) := by rw [hz]; exact nI_1 t
/-- a sum of what is chosen -/
def gsum (p : Nat → Prop) [DecidablePred p] (f : Nat → Int32) : Nat → Int32
  | 0 => 0
  | n + 1 => gsum p f n + (if p n then f n else 0)
section GM3
variable {w a : Nat → Nat → Int32} {b : Nat → Nat → Int64} {r : Nat → Nat → Nat} {q : Nat → Nat → Option Nat} {y : gH} {n u : Nat} {d : Nat}
abbrev gOn (a : Nat → Nat → Int32) (st s : Int32) : Nat → Prop := fun t => a 64 t = st ∧ a 65 t = s
theorem m_onShelf {N : Nat} (hN : w 44 25 = nI N) (hN1 : N ≤ 100) (s : Int32) : gE d 127 [.ref 44, .int s] (n, u, HP w a b r q y) (gre (nI (gcnt (gOn a 1 s) N)) (n, u, HP w a b r q y)) := by
  have hk : gMT[127]? = some gro_127 := rfl
  refine r_in hk [some (.ref 44), some (.int s), none, none] (Nat.le_of_ble_eq_true rfl) rfl ?_
  have loop : ∀ t, t ≤ N → ∀ x z : Int32, x = nI (gcnt (gOn a 1 s) t) → z = nI t → gX d 127 4 [some (.ref 44), some (.int s), some (.int x), some (.int z)] [] (n, u, HP w a b r q y) (gre (nI (gcnt (gOn a 1 s) N)) (n, u, HP w a b r q y)) := by
    refine g_down ?_ ?_
    · intro x z hx hz
      iterate 4 refine r_step hk rfl rfl rfl ?_
      refine r_ge (fun _ => ?_) (fun h => absurd (show w 44 25 ≤ z by rw [hz, hN]; exact nI_le (Nat.le_refl _) (by omega)) h)
      refine r_step hk rfl rfl rfl ?_
      refine r_iret hk rfl trivial ?_
      exact ⟨congrArg (fun z => some (Value.int z)) hx, rfl⟩
    · intro t ht ih x z hx hz
      iterate 4 refine r_step hk rfl rfl rfl ?_
      refine r_ge (fun h => absurd h (show ¬ w 44 25 ≤ z by rw [hz, hN]; exact nI_ge ht (by omega))) (fun _ => ?_)
      iterate 4 refine r_step hk rfl rfl rfl ?_
      refine r_ia hk (t) rfl rfl hz (by omega) rfl ?_
      iterate 2 refine r_step hk rfl rfl rfl ?_
      refine r_ne (fun h20 => ?_) (fun h20 => ?_)
      · iterate 5 refine r_step hk rfl rfl rfl ?_
        exact ih _ _ (by first | exact gcnt_t hx ⟨h20, h30⟩ | exact gcnt_f hx (fun h => h30 h.2) | exact gcnt_f hx (fun h => h20 h.1)) (nI_s hz)
      · iterate 3 refine r_step hk rfl rfl rfl ?_
        refine r_ia hk (t) rfl rfl hz (by omega) rfl ?_
        iterate 2 refine r_step hk rfl rfl rfl ?_
        refine r_ne (fun h30 => ?_) (fun h30 => ?_)
        · iterate 5 refine r_step hk rfl rfl rfl ?_
          exact ih _ _ (by first | exact gcnt_t hx ⟨h20, h30⟩ | exact gcnt_f hx (fun h => h30 h.2) | exact gcnt_f hx (fun h => h20 h.1)) (nI_s hz)
        · iterate 6 refine r_step hk rfl rfl rfl ?_
          exact ih _ _ (by first | exact gcnt_t hx ⟨h20, h30⟩ | exact gcnt_f hx (fun h => h30 h.2) | exact gcnt_f hx (fun h => h20 h.1)) (nI_s hz)
  iterate 4 refine r_step hk rfl rfl rfl ?_
  exact loop 0 (Nat.zero_le _) _ _ rfl rfl
theorem m_hasRoom (hd : 1 ≤ d) {N : Nat} (hN : w 44 25 = nI N) (hN1 : N ≤ 100) {s : Nat} (hs : s < 5) : gE d 126 [.ref 44, .int (nI s)] (n, u, HP w a b r q y) (gbo (nI (gcnt (gOn a 1 (nI s)) N) < a 69 s) (n, u, HP w a b r q y)) := by
  have hk : gMT[126]? = some gro_126 := rfl
  refine r_in hk [some (.ref 44), some (.int (nI s))] (Nat.le_of_ble_eq_true rfl) rfl ?_
  iterate 2 refine r_step hk rfl rfl rfl ?_
  refine r_callV hk [.ref 44, .int (nI s)] [] rfl rfl rfl rfl rfl rfl rfl hd (m_onShelf hN hN1 _) ?_
  rintro _ _ ⟨rfl, rfl⟩
  iterate 3 refine r_step hk rfl rfl rfl ?_
  refine r_ia hk (s) rfl rfl rfl hs rfl ?_
  refine r_step hk rfl rfl rfl ?_
  refine r_ge (fun h11 => ?_) (fun h11 => ?_)
  · refine r_step hk rfl rfl rfl ?_
    refine r_iret hk rfl (Or.inl rfl) ?_
    first | exact gbo_t (Int32.not_le.mp h11) | exact gbo_f (Int32.not_lt.mpr h11)
  · iterate 2 refine r_step hk rfl rfl rfl ?_
    refine r_iret hk rfl (Or.inr rfl) ?_
    first | exact gbo_t (Int32.not_le.mp h11) | exact gbo_f (Int32.not_lt.mpr h11)
theorem m_firstWithRoom (hd : 2 ≤ d) {N : Nat} (hN : w 44 25 = nI N) (hN1 : N ≤ 100) : gE d 133 [.ref 44] (n, u, HP w a b r q y) (fun v S' => S' = (n, u, HP w a b r q y) ∧
    ((∃ s, s < 5 ∧ v = some (.int (nI s)) ∧ nI (gcnt (gOn a 1 (nI s)) N) < a 69 s ∧ ∀ s', s' < s → ¬ nI (gcnt (gOn a 1 (nI s')) N) < a 69 s') ∨ ((∀ s', s' < 5 → ¬ nI (gcnt (gOn a 1 (nI s')) N) < a 69 s') ∧ v = some (.int 0)))) := by
  have hk : gMT[133]? = some gro_133 := rfl
  refine r_in hk [some (.ref 44), none] (Nat.le_of_ble_eq_true rfl) rfl ?_
  have loop : ∀ s, s ≤ 5 → ∀ z : Int32, z = nI s → (∀ s', s' < s → ¬ nI (gcnt (gOn a 1 (nI s')) N) < a 69 s') → gX d 133 2 [some (.ref 44), some (.int z)] [] (n, u, HP w a b r q y) (fun v S' => S' = (n, u, HP w a b r q y) ∧
    ((∃ s, s < 5 ∧ v = some (.int (nI s)) ∧ nI (gcnt (gOn a 1 (nI s)) N) < a 69 s ∧ ∀ s', s' < s → ¬ nI (gcnt (gOn a 1 (nI s')) N) < a 69 s') ∨ ((∀ s', s' < 5 → ¬ nI (gcnt (gOn a 1 (nI s')) N) < a 69 s') ∧ v = some (.int 0)))) := by
    refine g_down ?_ ?_
    · intro z hz hall
      iterate 3 refine r_step hk rfl rfl rfl ?_
      refine r_ge (fun _ => ?_) (fun h => absurd (show (5 : Int32) ≤ z by rw [hz]; decide) h)
      refine r_step hk rfl rfl rfl ?_
      refine r_iret hk rfl trivial ?_
      exact ⟨rfl, Or.inr ⟨hall, rfl⟩⟩
    · intro s hs ih z hz hall
      subst hz
      iterate 3 refine r_step hk rfl rfl rfl ?_
      refine r_ge (fun h => absurd h (show ¬ (5 : Int32) ≤ nI s by exact nI_ge (b := 5) hs (by decide))) (fun _ => ?_)
      iterate 2 refine r_step hk rfl rfl rfl ?_
      refine r_callV hk [.ref 44, .int (nI s)] [] rfl rfl rfl rfl rfl rfl rfl (by omega) (m_hasRoom (by omega) hN hN1 hs) ?_
      rintro _ _ ⟨⟨hr, rfl⟩ | ⟨hr, rfl⟩, rfl⟩
      · refine r_step hk rfl rfl rfl ?_
        refine r_eq (fun h => absurd h (by decide)) (fun _ => ?_)
        refine r_step hk rfl rfl rfl ?_
        refine r_iret hk rfl trivial ?_
        exact ⟨rfl, Or.inl ⟨s, hs, rfl, hr, hall⟩⟩
      · refine r_step hk rfl rfl rfl ?_
        refine r_eq (fun _ => ?_) (fun h => absurd (by decide) h)
        iterate 2 refine r_step hk rfl rfl rfl ?_
        exact ih _ (nI_1 s) (fun s' h' => if e : s' = s then by rw [e]; exact hr else hall s' (by omega))
  iterate 2 refine r_step hk rfl rfl rfl ?_
  exact loop 0 (by omega) _ rfl (fun _ h => absurd h (by omega))
theorem m_thefts (hd : 1 ≤ d) {N : Nat} (hN : w 44 25 = nI N) (hN1 : N ≤ 100) (s le : Int32) : gE d 140 [.ref 44, .int s, .int le] (n, u, HP w a b r q y) (fun v S' => S' = (n, u, HP (gTh w) a b r q y) ∧
    ((gin s 5 ∧ gin le 101 ∧ v = some (.int (if le < nI (gcnt (gOn a 6 s) N) then nI (gcnt (gOn a 6 s) N) - le else 0))) ∨ (¬ (gin s 5 ∧ gin le 101) ∧ v = some (.int (-1))))) := by
  have hk : gMT[140]? = some gro_140 := rfl
  refine r_in hk [some (.ref 44), some (.int s), some (.int le), none, none] (Nat.le_of_ble_eq_true rfl) rfl ?_
  have loop : gin s 5 → gin le 101 → ∀ t, t ≤ N → ∀ x z : Int32, x = nI (gcnt (gOn a 6 s) t) → z = nI t → gX d 140 29 [some (.ref 44), some (.int s), some (.int le), some (.int x), some (.int z)] [] (n, u, HP (gTh w) a b r q y) (fun v S' => S' = (n, u, HP (gTh w) a b r q y) ∧
    ((gin s 5 ∧ gin le 101 ∧ v = some (.int (if le < nI (gcnt (gOn a 6 s) N) then nI (gcnt (gOn a 6 s) N) - le else 0))) ∨ (¬ (gin s 5 ∧ gin le 101) ∧ v = some (.int (-1))))) := by
    intro hs hle
    refine g_down ?_ ?_
    · intro x z hx hz
      subst hx
      iterate 4 refine r_step hk rfl rfl rfl ?_
      refine r_ge (fun _ => ?_) (fun h => absurd (show w 44 25 ≤ z by rw [hz, hN]; exact nI_le (Nat.le_refl _) (by omega)) h)
      iterate 3 refine r_step hk rfl rfl rfl ?_
      refine r_le (fun h77 => ?_) (fun h77 => ?_)
      · refine r_step hk rfl rfl rfl ?_
        refine r_iret hk rfl trivial ?_
        first | exact ⟨rfl, Or.inl ⟨hs, hle, by rw [if_pos (Int32.not_le.mp h77)]⟩⟩ | exact ⟨rfl, Or.inl ⟨hs, hle, by rw [if_neg (Int32.not_lt.mpr h77)]⟩⟩
      · iterate 4 refine r_step hk rfl rfl rfl ?_
        refine r_iret hk rfl trivial ?_
        first | exact ⟨rfl, Or.inl ⟨hs, hle, by rw [if_pos (Int32.not_le.mp h77)]⟩⟩ | exact ⟨rfl, Or.inl ⟨hs, hle, by rw [if_neg (Int32.not_lt.mpr h77)]⟩⟩
    · intro t ht ih x z hx hz
      iterate 4 refine r_step hk rfl rfl rfl ?_
      refine r_ge (fun h => absurd h (show ¬ w 44 25 ≤ z by rw [hz, hN]; exact nI_ge ht (by omega))) (fun _ => ?_)
      iterate 4 refine r_step hk rfl rfl rfl ?_
      refine r_ia hk (t) rfl rfl hz (by omega) rfl ?_
      iterate 2 refine r_step hk rfl rfl rfl ?_
      refine r_ne (fun h48 => ?_) (fun h48 => ?_)
      · iterate 5 refine r_step hk rfl rfl rfl ?_
        exact ih _ _ (by first | exact gcnt_t hx ⟨h48, h59⟩ | exact gcnt_f hx (fun h => h59 h.2) | exact gcnt_f hx (fun h => h48 h.1)) (nI_s hz)
      · iterate 3 refine r_step hk rfl rfl rfl ?_
        refine r_ia hk (t) rfl rfl hz (by omega) rfl ?_
        iterate 2 refine r_step hk rfl rfl rfl ?_
        refine r_ne (fun h59 => ?_) (fun h59 => ?_)
        · iterate 5 refine r_step hk rfl rfl rfl ?_
          exact ih _ _ (by first | exact gcnt_t hx ⟨h48, h59⟩ | exact gcnt_f hx (fun h => h59 h.2) | exact gcnt_f hx (fun h => h48 h.1)) (nI_s hz)
        · iterate 6 refine r_step hk rfl rfl rfl ?_
          exact ih _ _ (by first | exact gcnt_t hx ⟨h48, h59⟩ | exact gcnt_f hx (fun h => h59 h.2) | exact gcnt_f hx (fun h => h48 h.1)) (nI_s hz)
  iterate 2 refine r_step hk rfl rfl rfl ?_
  refine r_putI hk rfl rfl rfl rfl ?_
  refine r_step hk rfl rfl rfl ?_
  refine r_callS hk [.int s] [] rfl rfl rfl rfl rfl hd (m_isShop _ _ _) ?_
  rintro _ _ ⟨⟨hs, rfl⟩ | ⟨hs, rfl⟩, rfl⟩
  · refine r_step hk rfl rfl rfl ?_
    refine r_eq (fun h => absurd h (by decide)) (fun _ => ?_)
    iterate 3 refine r_step hk rfl rfl rfl ?_
    refine r_callS hk [.int le, .int 0, .int 100] [] rfl rfl rfl rfl rfl hd (m_within _ _ _ 100 (by decide)) ?_
    rintro _ _ ⟨⟨hl, rfl⟩ | ⟨hl, rfl⟩, rfl⟩
    · refine r_step hk rfl rfl rfl ?_
      refine r_ne (fun _ => ?_) (fun h => absurd h (by decide))
      iterate 4 refine r_step hk rfl rfl rfl ?_
      exact loop hs hl 0 (Nat.zero_le _) _ _ rfl rfl
    · refine r_step hk rfl rfl rfl ?_
      refine r_ne (fun h => absurd (by decide) h) (fun _ => ?_)
      refine r_step hk rfl rfl rfl ?_
      refine r_iret hk rfl trivial ?_
      first | exact ⟨rfl, Or.inr ⟨fun h => hl h.2, rfl⟩⟩ | exact ⟨rfl, Or.inr ⟨fun h => hs h.1, rfl⟩⟩
  · refine r_step hk rfl rfl rfl ?_
    refine r_eq (fun _ => ?_) (fun h => absurd (by decide) h)
    refine r_step hk rfl rfl rfl ?_
    refine r_iret hk rfl trivial ?_
    first | exact ⟨rfl, Or.inr ⟨fun h => hl h.2, rfl⟩⟩ | exact ⟨rfl, Or.inr ⟨fun h => hs h.1, rfl⟩⟩
/-- the sales that hold, of a kind in a shop -/
abbrev gSo (a : Nat → Nat → Int32) (k s : Int32) : Nat → Prop := fun j => a 78 j = 0 ∧ a 76 j = s ∧ a 61 (a 74 j).toNatClampNeg = k
theorem nI_8 (s k : Nat) : 8 * nI s + nI k = nI (8 * s + k) := by
  rw [show (8 : Int32) = nI 8 from rfl, pk_mul, nI_add]
theorem m_weighs {N M : Nat} (hN1 : N ≤ 100) (hM : w 44 41 = nI M) (hM1 : M ≤ 200) (hst : ∀ j, j < M → gin (a 74 j) N) {k s : Nat} (hk8 : k < 8) (hs5 : s < 5) {la : Nat} (hla : a 70 (8 * s + k) = nI la) (hla1 : la < 100000) (p : Int32) : gE d 142 [.ref 44, .int p, .int (nI k), .int (nI s)] (n, u, HP w a b r q y) (gre ((p.toInt64 * (nI (gcnt (gSo a (nI k) (nI s)) M) + 1).toInt64 / (nI (gcnt (gSo a (nI k) (nI s)) M) + nI la + 2).toInt64).toInt32) (n, u, HP w a b r q y)) := by
  have hk : gMT[142]? = some gro_142 := rfl
  refine r_in hk [some (.ref 44), some (.int p), some (.int (nI k)), some (.int (nI s)), none, none] (Nat.le_of_ble_eq_true rfl) rfl ?_
  have hg := gcnt_le (gSo a (nI k) (nI s)) M
  have loop : ∀ t, t ≤ M → ∀ x z : Int32, x = nI (gcnt (gSo a (nI k) (nI s)) t) → z = nI t → gX d 142 6 [some (.ref 44), some (.int p), some (.int (nI k)), some (.int (nI s)), some (.int x), some (.int z)] [] (n, u, HP w a b r q y) (gre ((p.toInt64 * (nI (gcnt (gSo a (nI k) (nI s)) M) + 1).toInt64 / (nI (gcnt (gSo a (nI k) (nI s)) M) + nI la + 2).toInt64).toInt32) (n, u, HP w a b r q y)) := by
    refine g_down ?_ ?_
    · intro x z hx hz
      subst hx
      have hne : ¬ (nI (gcnt (gSo a (nI k) (nI s)) M) + a 70 (8 * s + k) + 2).toInt64 = 0 := by
        rw [hla, nI_add, show (2 : Int32) = nI 2 from rfl, nI_add, nI_l (by omega)]
        intro h
        have := (lN_eq (a := gcnt (gSo a (nI k) (nI s)) M + la + 2) (b := 0) (by omega) (by omega)).mp h
        omega
      iterate 4 refine r_step hk rfl rfl rfl ?_
      refine r_ge (fun _ => ?_) (fun h => absurd (show w 44 41 ≤ z by rw [hz, hM]; exact nI_le (Nat.le_refl _) (by omega)) h)
      iterate 15 refine r_step hk rfl rfl rfl ?_
      refine r_ia hk (8 * s + k) rfl rfl (nI_8 s k) (by omega) rfl ?_
      iterate 4 refine r_step hk rfl rfl rfl ?_
      refine r_ldiv hk rfl hne ?_
      refine r_step hk rfl rfl rfl ?_
      refine r_iret hk rfl trivial ?_
      exact ⟨by rw [hla], rfl⟩
    · intro t ht ih x z hx hz
      obtain ⟨t2, ht2, e2⟩ := hst t ht
      have e3 : (a 74 t).toNatClampNeg = t2 := by rw [e2]; exact nI_clamp (by omega)
      iterate 4 refine r_step hk rfl rfl rfl ?_
      refine r_ge (fun h => absurd h (show ¬ w 44 41 ≤ z by rw [hz, hM]; exact nI_ge ht (by omega))) (fun _ => ?_)
      iterate 4 refine r_step hk rfl rfl rfl ?_
      refine r_za hk (t) rfl rfl hz (by omega) rfl ?_
      refine r_step hk rfl rfl rfl ?_
      refine r_ne (fun h24 => ?_) (fun h24 => ?_)
      · iterate 5 refine r_step hk rfl rfl rfl ?_
        exact ih _ _ (by first | exact gcnt_t hx ⟨h24, h35, by rw [e3]; exact h51⟩ | exact gcnt_f hx (fun h => h51 (by rw [← e3]; exact h.2.2)) | exact gcnt_f hx (fun h => h35 h.2.1) | exact gcnt_f hx (fun h => h24 h.1)) (nI_s hz)
      · iterate 3 refine r_step hk rfl rfl rfl ?_
        refine r_ia hk (t) rfl rfl hz (by omega) rfl ?_
        iterate 2 refine r_step hk rfl rfl rfl ?_
        refine r_ne (fun h35 => ?_) (fun h35 => ?_)
        · iterate 5 refine r_step hk rfl rfl rfl ?_
          exact ih _ _ (by first | exact gcnt_t hx ⟨h24, h35, by rw [e3]; exact h51⟩ | exact gcnt_f hx (fun h => h51 (by rw [← e3]; exact h.2.2)) | exact gcnt_f hx (fun h => h35 h.2.1) | exact gcnt_f hx (fun h => h24 h.1)) (nI_s hz)
        · iterate 5 refine r_step hk rfl rfl rfl ?_
          refine r_ia hk (t) rfl rfl hz (by omega) rfl ?_
          refine r_ia hk (t2) rfl rfl e2 (by omega) rfl ?_
          iterate 2 refine r_step hk rfl rfl rfl ?_
          refine r_ne (fun h51 => ?_) (fun h51 => ?_)
          · iterate 5 refine r_step hk rfl rfl rfl ?_
            exact ih _ _ (by first | exact gcnt_t hx ⟨h24, h35, by rw [e3]; exact h51⟩ | exact gcnt_f hx (fun h => h51 (by rw [← e3]; exact h.2.2)) | exact gcnt_f hx (fun h => h35 h.2.1) | exact gcnt_f hx (fun h => h24 h.1)) (nI_s hz)
          · iterate 6 refine r_step hk rfl rfl rfl ?_
            exact ih _ _ (by first | exact gcnt_t hx ⟨h24, h35, by rw [e3]; exact h51⟩ | exact gcnt_f hx (fun h => h51 (by rw [← e3]; exact h.2.2)) | exact gcnt_f hx (fun h => h35 h.2.1) | exact gcnt_f hx (fun h => h24 h.1)) (nI_s hz)
  iterate 4 refine r_step hk rfl rfl rfl ?_
  exact loop 0 (Nat.zero_le _) _ _ rfl rfl
theorem m_thingsThat {N : Nat} (hN : w 44 25 = nI N) (hN1 : N ≤ 100) (s : Int32) : gE d 160 [.ref 44, .int s] (n, u, HP w a b r q y) (gre (nI (gcnt (fun t => a 64 t = s) N)) (n, u, HP w a b r q y)) := by
  have hk : gMT[160]? = some gro_160 := rfl
  refine r_in hk [some (.ref 44), some (.int s), none, none] (Nat.le_of_ble_eq_true rfl) rfl ?_
  have loop : ∀ t, t ≤ N → ∀ x z : Int32, x = nI (gcnt (fun t => a 64 t = s) t) → z = nI t → gX d 160 4 [some (.ref 44), some (.int s), some (.int x), some (.int z)] [] (n, u, HP w a b r q y) (gre (nI (gcnt (fun t => a 64 t = s) N)) (n, u, HP w a b r q y)) := by
    refine g_down ?_ ?_
    · intro x z hx hz
      iterate 4 refine r_step hk rfl rfl rfl ?_
      refine r_ge (fun _ => ?_) (fun h => absurd (show w 44 25 ≤ z by rw [hz, hN]; exact nI_le (Nat.le_refl _) (by omega)) h)
      refine r_step hk rfl rfl rfl ?_
      refine r_iret hk rfl trivial ?_
      exact ⟨congrArg (fun z => some (Value.int z)) hx, rfl⟩
    · intro t ht ih x z hx hz
      iterate 4 refine r_step hk rfl rfl rfl ?_
      refine r_ge (fun h => absurd h (show ¬ w 44 25 ≤ z by rw [hz, hN]; exact nI_ge ht (by omega))) (fun _ => ?_)
      iterate 4 refine r_step hk rfl rfl rfl ?_
      refine r_ia hk (t) rfl rfl hz (by omega) rfl ?_
      iterate 2 refine r_step hk rfl rfl rfl ?_
      refine r_ne (fun h20 => ?_) (fun h20 => ?_)
      · iterate 5 refine r_step hk rfl rfl rfl ?_
        exact ih _ _ (by first | exact gcnt_t hx h20 | exact gcnt_f hx h20) (nI_s hz)
      · iterate 6 refine r_step hk rfl rfl rfl ?_
        exact ih _ _ (by first | exact gcnt_t hx h20 | exact gcnt_f hx h20) (nI_s hz)
  iterate 4 refine r_step hk rfl rfl rfl ?_
  exact loop 0 (Nat.zero_le _) _ _ rfl rfl
end GM3
