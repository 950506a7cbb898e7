/-! ===== the reference: methods without loops ===== -/
section GM1
variable {w a : Nat → Nat → Int32} {b : Nat → Nat → Int64} {r : Nat → Nat → Nat} {q : Nat → Nat → Option Nat} {y : gH} {n u : Nat} {d : Nat}
abbrev gTh (w : Nat → Nat → Int32) : Nat → Nat → Int32 := upd2 w 44 0 0
theorem m_within (d : Nat) (S : gS) (x : Int32) (M : Nat) (hM : M < 2 ^ 30) : gE d 116 [.int x, .int 0, .int (nI M)] S (gbo (gin x (M + 1)) S) := by
  have hk : gMT[116]? = some gro_116 := rfl
  refine r_in hk [some (.int x), some (.int 0), some (.int (nI M))] (Nat.le_of_ble_eq_true rfl) rfl ?_
  iterate 3 refine r_step hk rfl rfl rfl ?_
  refine r_lt (fun h2 => ?_) (fun h2 => ?_)
  · refine r_step hk rfl rfl rfl ?_
    refine r_iret hk rfl (Or.inl rfl) ?_
    first | exact gbo_t (gin_of' (by assumption) (by assumption) (by omega)) | exact gbo_f (gin_lt (by assumption) (by omega)) | exact gbo_f (gin_gt (by assumption) (by omega))
  · iterate 3 refine r_step hk rfl rfl rfl ?_
    refine r_gt (fun h7 => ?_) (fun h7 => ?_)
    · refine r_step hk rfl rfl rfl ?_
      refine r_iret hk rfl (Or.inl rfl) ?_
      first | exact gbo_t (gin_of' (by assumption) (by assumption) (by omega)) | exact gbo_f (gin_lt (by assumption) (by omega)) | exact gbo_f (gin_gt (by assumption) (by omega))
    · iterate 2 refine r_step hk rfl rfl rfl ?_
      refine r_iret hk rfl (Or.inr rfl) ?_
      first | exact gbo_t (gin_of' (by assumption) (by assumption) (by omega)) | exact gbo_f (gin_lt (by assumption) (by omega)) | exact gbo_f (gin_gt (by assumption) (by omega))
theorem m_within1 (d : Nat) (S : gS) (x : Int32) : gE d 116 [.int x, .int 1, .int 10000] S (gbo (∃ j, 1 ≤ j ∧ j < 10001 ∧ x = nI j) S) := by
  have hk : gMT[116]? = some gro_116 := rfl
  refine r_in hk [some (.int x), some (.int 1), some (.int 10000)] (Nat.le_of_ble_eq_true rfl) rfl ?_
  have key1 : x < 1 → ¬ ∃ j, 1 ≤ j ∧ j < 10001 ∧ x = nI j := by
    rintro h ⟨j, h1, h2, rfl⟩
    have := (nI_ltI (a := j) (b := 1) (by omega) (by omega)).mp h
    omega
  have key2 : (10000 : Int32) < x → ¬ ∃ j, 1 ≤ j ∧ j < 10001 ∧ x = nI j := by
    rintro h ⟨j, h1, h2, rfl⟩
    have := (nI_ltI (a := 10000) (b := j) (by omega) (by omega)).mp h
    omega
  have key3 : ¬ x < 1 → ¬ (10000 : Int32) < x → ∃ j, 1 ≤ j ∧ j < 10001 ∧ x = nI j := by
    intro h1 h2
    have h0 : ¬ x < 0 := fun h => h1 (by
      have e1 : x.toInt < (0 : Int32).toInt := Int32.lt_iff_toInt_lt.mp h
      refine Int32.lt_iff_toInt_lt.mpr ?_
      have e2 : (0 : Int32).toInt = 0 := by decide
      have e3 : (1 : Int32).toInt = 1 := by decide
      omega)
    obtain ⟨j, hj, rfl⟩ := gin_of' (M := 10000) h0 h2 (by decide)
    refine ⟨j, ?_, hj, rfl⟩
    rcases Nat.lt_or_ge j 1 with h | h
    · exact absurd ((nI_ltI (a := j) (b := 1) (by omega) (by omega)).mpr h) h1
    · exact h
  iterate 3 refine r_step hk rfl rfl rfl ?_
  refine r_lt (fun h2 => ?_) (fun h2 => ?_)
  · refine r_step hk rfl rfl rfl ?_
    refine r_iret hk rfl (Or.inl rfl) ?_
    first | exact gbo_t (key3 (by assumption) (by assumption)) | exact gbo_f (key1 (by assumption)) | exact gbo_f (key2 (by assumption))
  · iterate 3 refine r_step hk rfl rfl rfl ?_
    refine r_gt (fun h7 => ?_) (fun h7 => ?_)
    · refine r_step hk rfl rfl rfl ?_
      refine r_iret hk rfl (Or.inl rfl) ?_
      first | exact gbo_t (key3 (by assumption) (by assumption)) | exact gbo_f (key1 (by assumption)) | exact gbo_f (key2 (by assumption))
    · iterate 2 refine r_step hk rfl rfl rfl ?_
      refine r_iret hk rfl (Or.inr rfl) ?_
      first | exact gbo_t (key3 (by assumption) (by assumption)) | exact gbo_f (key1 (by assumption)) | exact gbo_f (key2 (by assumption))
theorem m_isShop (d : Nat) (S : gS) (x : Int32) : gE d 118 [.int x] S (gbo (gin x 5) S) := by
  have hk : gMT[118]? = some gro_118 := rfl
  refine r_in hk [some (.int x)] (Nat.le_of_ble_eq_true rfl) rfl ?_
  iterate 2 refine r_step hk rfl rfl rfl ?_
  refine r_lt (fun h1 => ?_) (fun h1 => ?_)
  · refine r_step hk rfl rfl rfl ?_
    refine r_iret hk rfl (Or.inl rfl) ?_
    first | exact gbo_t (gin_of (N := 5) (by assumption) (by assumption) (by decide)) | exact gbo_f (gin_lt (by assumption) (by decide)) | exact gbo_f (gin_ge (N := 5) (by assumption) (by decide))
  · iterate 3 refine r_step hk rfl rfl rfl ?_
    refine r_ge (fun h6 => ?_) (fun h6 => ?_)
    · refine r_step hk rfl rfl rfl ?_
      refine r_iret hk rfl (Or.inl rfl) ?_
      first | exact gbo_t (gin_of (N := 5) (by assumption) (by assumption) (by decide)) | exact gbo_f (gin_lt (by assumption) (by decide)) | exact gbo_f (gin_ge (N := 5) (by assumption) (by decide))
    · iterate 2 refine r_step hk rfl rfl rfl ?_
      refine r_iret hk rfl (Or.inr rfl) ?_
      first | exact gbo_t (gin_of (N := 5) (by assumption) (by assumption) (by decide)) | exact gbo_f (gin_lt (by assumption) (by decide)) | exact gbo_f (gin_ge (N := 5) (by assumption) (by decide))
theorem m_isThing {N : Nat} (hN : w 44 25 = nI N) (hN1 : N ≤ 100) (x : Int32) : gE d 121 [.ref 44, .int x] (n, u, HP w a b r q y) (gbo (gin x N) (n, u, HP w a b r q y)) := by
  have hk : gMT[121]? = some gro_121 := rfl
  refine r_in hk [some (.ref 44), some (.int x)] (Nat.le_of_ble_eq_true rfl) rfl ?_
  iterate 2 refine r_step hk rfl rfl rfl ?_
  refine r_lt (fun h1 => ?_) (fun h1 => ?_)
  · refine r_step hk rfl rfl rfl ?_
    refine r_iret hk rfl (Or.inl rfl) ?_
    first | exact gbo_t (gin_of (by assumption) (by rw [← hN]; assumption) (by omega)) | exact gbo_f (gin_lt (by assumption) (by omega)) | exact gbo_f (gin_ge (by rw [← hN]; assumption) (by omega))
  · iterate 4 refine r_step hk rfl rfl rfl ?_
    refine r_ge (fun h9 => ?_) (fun h9 => ?_)
    · refine r_step hk rfl rfl rfl ?_
      refine r_iret hk rfl (Or.inl rfl) ?_
      first | exact gbo_t (gin_of (by assumption) (by rw [← hN]; assumption) (by omega)) | exact gbo_f (gin_lt (by assumption) (by omega)) | exact gbo_f (gin_ge (by rw [← hN]; assumption) (by omega))
    · iterate 2 refine r_step hk rfl rfl rfl ?_
      refine r_iret hk rfl (Or.inr rfl) ?_
      first | exact gbo_t (gin_of (by assumption) (by rw [← hN]; assumption) (by omega)) | exact gbo_f (gin_lt (by assumption) (by omega)) | exact gbo_f (gin_ge (by rw [← hN]; assumption) (by omega))
theorem m_isOn (hd : 1 ≤ d) {N : Nat} (hN : w 44 25 = nI N) (hN1 : N ≤ 100) (x : Int32) : gE d 135 [.ref 44, .int x] (n, u, HP w a b r q y) (gbo (∃ t, t < N ∧ x = nI t ∧ a 64 t = 1) (n, u, HP w a b r q y)) := by
  have hk : gMT[135]? = some gro_135 := rfl
  refine r_in hk [some (.ref 44), some (.int x)] (Nat.le_of_ble_eq_true rfl) rfl ?_
  iterate 2 refine r_step hk rfl rfl rfl ?_
  refine r_callV hk [.ref 44, .int x] [] rfl rfl rfl rfl rfl rfl rfl hd (m_isThing hN hN1 x) ?_
  rintro _ _ ⟨⟨⟨t, ht, rfl⟩, rfl⟩ | ⟨hs, rfl⟩, rfl⟩
  · refine r_step hk rfl rfl rfl ?_
    refine r_eq (fun h => absurd h (by decide)) (fun _ => ?_)
    iterate 3 refine r_step hk rfl rfl rfl ?_
    refine r_ia hk (t) rfl rfl rfl (by omega) rfl ?_
    iterate 2 refine r_step hk rfl rfl rfl ?_
    refine r_ne (fun h15 => ?_) (fun h15 => ?_)
    · refine r_step hk rfl rfl rfl ?_
      refine r_iret hk rfl (Or.inl rfl) ?_
      first | exact gbo_t ⟨t, ht, rfl, by assumption⟩ | exact gbo_f (fun ⟨t2, h2, e2, h3⟩ => h15 (by rw [nI_inj e2 (by omega) (by omega)]; exact h3)) | exact gbo_f (fun ⟨t, ht, e, _⟩ => hs ⟨t, ht, e⟩)
    · iterate 2 refine r_step hk rfl rfl rfl ?_
      refine r_iret hk rfl (Or.inr rfl) ?_
      first | exact gbo_t ⟨t, ht, rfl, by assumption⟩ | exact gbo_f (fun ⟨t2, h2, e2, h3⟩ => h15 (by rw [nI_inj e2 (by omega) (by omega)]; exact h3)) | exact gbo_f (fun ⟨t, ht, e, _⟩ => hs ⟨t, ht, e⟩)
  · refine r_step hk rfl rfl rfl ?_
    refine r_eq (fun _ => ?_) (fun h => absurd (by decide) h)
    refine r_step hk rfl rfl rfl ?_
    refine r_iret hk rfl (Or.inl rfl) ?_
    first | exact gbo_t ⟨t, ht, rfl, by assumption⟩ | exact gbo_f (fun ⟨t2, h2, e2, h3⟩ => h15 (by rw [nI_inj e2 (by omega) (by omega)]; exact h3)) | exact gbo_f (fun ⟨t, ht, e, _⟩ => hs ⟨t, ht, e⟩)
theorem m_thrown : gE d 92 [.ref 44] (n, u, HP w a b r q y) (gre (w 44 0) (n, u, HP w a b r q y)) := by
  have hk : gMT[92]? = some gro_92 := rfl
  refine r_in hk [some (.ref 44)] (Nat.le_of_ble_eq_true rfl) rfl ?_
  iterate 2 refine r_step hk rfl rfl rfl ?_
  refine r_iret hk rfl trivial ?_
  exact ⟨rfl, rfl⟩
theorem m_shelf (hd : 1 ≤ d) (x z : Int32) : gE d 117 [.ref 44, .int x, .int z] (n, u, HP w a b r q y) (fun v S' => (∃ s j, s < 5 ∧ j < 41 ∧ x = nI s ∧ z = nI j ∧ v = some (.int 1) ∧ S' = (n, u, HP (gTh w) (upd2 a 69 s z) b r q y)) ∨ (¬ (gin x 5 ∧ gin z 41) ∧ v = some (.int 0) ∧ S' = (n, u, HP (gTh w) a b r q y))) := by
  have hk : gMT[117]? = some gro_117 := rfl
  refine r_in hk [some (.ref 44), some (.int x), some (.int z)] (Nat.le_of_ble_eq_true rfl) rfl ?_
  iterate 2 refine r_step hk rfl rfl rfl ?_
  refine r_putI hk rfl rfl rfl rfl ?_
  refine r_step hk rfl rfl rfl ?_
  refine r_callS hk [.int x] [] rfl rfl rfl rfl rfl hd (m_isShop _ _ _) ?_
  rintro _ _ ⟨⟨⟨s, hs, rfl⟩, rfl⟩ | ⟨hs, rfl⟩, rfl⟩
  · refine r_step hk rfl rfl rfl ?_
    refine r_eq (fun h => absurd h (by decide)) (fun _ => ?_)
    iterate 3 refine r_step hk rfl rfl rfl ?_
    refine r_callS hk [.int z, .int 0, .int 40] [] rfl rfl rfl rfl rfl hd (m_within _ _ _ 40 (by decide)) ?_
    rintro _ _ ⟨⟨⟨j, hj, rfl⟩, rfl⟩ | ⟨hz, rfl⟩, rfl⟩
    · refine r_step hk rfl rfl rfl ?_
      refine r_ne (fun _ => ?_) (fun h => absurd h (by decide))
      iterate 4 refine r_step hk rfl rfl rfl ?_
      refine r_is hk (s) rfl rfl rfl rfl hs rfl rfl ?_
      refine r_step hk rfl rfl rfl ?_
      refine r_iret hk rfl (Or.inr rfl) ?_
      first | exact Or.inl ⟨s, j, hs, hj, rfl, rfl, rfl, rfl⟩ | exact Or.inr ⟨fun h => hz h.2, rfl, rfl⟩ | exact Or.inr ⟨fun h => hs h.1, rfl, rfl⟩
    · refine r_step hk rfl rfl rfl ?_
      refine r_ne (fun h => absurd (by decide) h) (fun _ => ?_)
      refine r_step hk rfl rfl rfl ?_
      refine r_iret hk rfl (Or.inl rfl) ?_
      first | exact Or.inl ⟨s, j, hs, hj, rfl, rfl, rfl, rfl⟩ | exact Or.inr ⟨fun h => hz h.2, rfl, rfl⟩ | exact Or.inr ⟨fun h => hs h.1, rfl, rfl⟩
  · refine r_step hk rfl rfl rfl ?_
    refine r_eq (fun _ => ?_) (fun h => absurd (by decide) h)
    refine r_step hk rfl rfl rfl ?_
    refine r_iret hk rfl (Or.inl rfl) ?_
    first | exact Or.inl ⟨s, j, hs, hj, rfl, rfl, rfl, rfl⟩ | exact Or.inr ⟨fun h => hz h.2, rfl, rfl⟩ | exact Or.inr ⟨fun h => hs h.1, rfl, rfl⟩
theorem m_base (hd : 1 ≤ d) (x z : Int32) : gE d 119 [.ref 44, .int x, .int z] (n, u, HP w a b r q y) (fun v S' => (∃ s j, s < 8 ∧ 1 ≤ j ∧ j < 10001 ∧ x = nI s ∧ z = nI j ∧ v = some (.int 1) ∧ S' = (n, u, HP (gTh w) (upd2 a 68 s z) b r q y)) ∨ (¬ (gin x 8 ∧ ∃ j, 1 ≤ j ∧ j < 10001 ∧ z = nI j) ∧ v = some (.int 0) ∧ S' = (n, u, HP (gTh w) a b r q y))) := by
  have hk : gMT[119]? = some gro_119 := rfl
  refine r_in hk [some (.ref 44), some (.int x), some (.int z)] (Nat.le_of_ble_eq_true rfl) rfl ?_
  iterate 2 refine r_step hk rfl rfl rfl ?_
  refine r_putI hk rfl rfl rfl rfl ?_
  iterate 3 refine r_step hk rfl rfl rfl ?_
  refine r_callS hk [.int x, .int 0, .int 7] [] rfl rfl rfl rfl rfl hd (m_within _ _ _ 7 (by decide)) ?_
  rintro _ _ ⟨⟨⟨s, hs, rfl⟩, rfl⟩ | ⟨hs, rfl⟩, rfl⟩
  · refine r_step hk rfl rfl rfl ?_
    refine r_eq (fun h => absurd h (by decide)) (fun _ => ?_)
    iterate 3 refine r_step hk rfl rfl rfl ?_
    refine r_callS hk [.int z, .int 1, .int 10000] [] rfl rfl rfl rfl rfl hd (m_within1 _ _ _) ?_
    rintro _ _ ⟨⟨⟨j, h1, hj, rfl⟩, rfl⟩ | ⟨hz, rfl⟩, rfl⟩
    · refine r_step hk rfl rfl rfl ?_
      refine r_ne (fun _ => ?_) (fun h => absurd h (by decide))
      iterate 4 refine r_step hk rfl rfl rfl ?_
      refine r_is hk (s) rfl rfl rfl rfl hs rfl rfl ?_
      refine r_step hk rfl rfl rfl ?_
      refine r_iret hk rfl (Or.inr rfl) ?_
      first | exact Or.inl ⟨s, j, hs, h1, hj, rfl, rfl, rfl, rfl⟩ | exact Or.inr ⟨fun h => hz h.2, rfl, rfl⟩ | exact Or.inr ⟨fun h => hs h.1, rfl, rfl⟩
    · refine r_step hk rfl rfl rfl ?_
      refine r_ne (fun h => absurd (by decide) h) (fun _ => ?_)
      refine r_step hk rfl rfl rfl ?_
      refine r_iret hk rfl (Or.inl rfl) ?_
      first | exact Or.inl ⟨s, j, hs, h1, hj, rfl, rfl, rfl, rfl⟩ | exact Or.inr ⟨fun h => hz h.2, rfl, rfl⟩ | exact Or.inr ⟨fun h => hs h.1, rfl, rfl⟩
  · refine r_step hk rfl rfl rfl ?_
    refine r_eq (fun _ => ?_) (fun h => absurd (by decide) h)
    refine r_step hk rfl rfl rfl ?_
    refine r_iret hk rfl (Or.inl rfl) ?_
    first | exact Or.inl ⟨s, j, hs, h1, hj, rfl, rfl, rfl, rfl⟩ | exact Or.inr ⟨fun h => hz h.2, rfl, rfl⟩ | exact Or.inr ⟨fun h => hs h.1, rfl, rfl⟩
theorem m_van (hd : 1 ≤ d) (x : Int32) : gE d 146 [.ref 44, .int x] (n, u, HP w a b r q y) (fun v S' => (gin x 1001 ∧ v = some (.int 1) ∧ S' = (n, u, HP (upd2 (gTh w) 44 47 x) a b r q y)) ∨ (¬ gin x 1001 ∧ v = some (.int 0) ∧ S' = (n, u, HP (gTh w) a b r q y))) := by
  have hk : gMT[146]? = some gro_146 := rfl
  refine r_in hk [some (.ref 44), some (.int x)] (Nat.le_of_ble_eq_true rfl) rfl ?_
  iterate 2 refine r_step hk rfl rfl rfl ?_
  refine r_putI hk rfl rfl rfl rfl ?_
  iterate 3 refine r_step hk rfl rfl rfl ?_
  refine r_callS hk [.int x, .int 0, .int 1000] [] rfl rfl rfl rfl rfl hd (m_within _ _ _ 1000 (by decide)) ?_
  rintro _ _ ⟨⟨hs, rfl⟩ | ⟨hs, rfl⟩, rfl⟩
  · refine r_step hk rfl rfl rfl ?_
    refine r_ne (fun _ => ?_) (fun h => absurd h (by decide))
    iterate 2 refine r_step hk rfl rfl rfl ?_
    refine r_putI hk rfl rfl rfl rfl ?_
    refine r_step hk rfl rfl rfl ?_
    refine r_iret hk rfl (Or.inr rfl) ?_
    first | exact Or.inl ⟨hs, rfl, rfl⟩ | exact Or.inr ⟨hs, rfl, rfl⟩
  · refine r_step hk rfl rfl rfl ?_
    refine r_ne (fun h => absurd (by decide) h) (fun _ => ?_)
    refine r_step hk rfl rfl rfl ?_
    refine r_iret hk rfl (Or.inl rfl) ?_
    first | exact Or.inl ⟨hs, rfl, rfl⟩ | exact Or.inr ⟨hs, rfl, rfl⟩
theorem m_rate (hd : 1 ≤ d) (x : Int32) : gE d 156 [.ref 44, .int x] (n, u, HP w a b r q y) (fun v S' => (gin x 101 ∧ v = some (.int 1) ∧ S' = (n, u, HP (upd2 (gTh w) 44 39 x) a b r q y)) ∨ (¬ gin x 101 ∧ v = some (.int 0) ∧ S' = (n, u, HP (gTh w) a b r q y))) := by
  have hk : gMT[156]? = some gro_156 := rfl
  refine r_in hk [some (.ref 44), some (.int x)] (Nat.le_of_ble_eq_true rfl) rfl ?_
  iterate 2 refine r_step hk rfl rfl rfl ?_
  refine r_putI hk rfl rfl rfl rfl ?_
  iterate 3 refine r_step hk rfl rfl rfl ?_
  refine r_callS hk [.int x, .int 0, .int 100] [] rfl rfl rfl rfl rfl hd (m_within _ _ _ 100 (by decide)) ?_
  rintro _ _ ⟨⟨hs, rfl⟩ | ⟨hs, rfl⟩, rfl⟩
  · refine r_step hk rfl rfl rfl ?_
    refine r_ne (fun _ => ?_) (fun h => absurd h (by decide))
    iterate 2 refine r_step hk rfl rfl rfl ?_
    refine r_putI hk rfl rfl rfl rfl ?_
    refine r_step hk rfl rfl rfl ?_
    refine r_iret hk rfl (Or.inr rfl) ?_
    first | exact Or.inl ⟨hs, rfl, rfl⟩ | exact Or.inr ⟨hs, rfl, rfl⟩
  · refine r_step hk rfl rfl rfl ?_
    refine r_ne (fun h => absurd (by decide) h) (fun _ => ?_)
    refine r_step hk rfl rfl rfl ?_
    refine r_iret hk rfl (Or.inl rfl) ?_
    first | exact Or.inl ⟨hs, rfl, rfl⟩ | exact Or.inr ⟨hs, rfl, rfl⟩
end GM1
