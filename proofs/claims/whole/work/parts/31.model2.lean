/-! ===== the reference: give, sales and the like ===== -/
section GM2
variable {w a : Nat → Nat → Int32} {b : Nat → Nat → Int64} {r : Nat → Nat → Nat} {q : Nat → Nat → Option Nat} {y : gH} {n u : Nat} {d : Nat}
theorem m_give (hd : 1 ≤ d) {N : Nat} (hN : w 44 25 = nI N) (hN1 : N ≤ 100) (x1 x2 x3 x4 : Int32) : gE d 115 [.ref 44, .int x1, .int x2, .int x3, .int x4] (n, u, HP w a b r q y) (fun v S' =>
    (∃ j1 j2 j3 j4, j1 < 20 ∧ j2 < 8 ∧ j3 < 10 ∧ j4 < 5 ∧ N < 100 ∧ x1 = nI j1 ∧ x2 = nI j2 ∧ x3 = nI j3 ∧ x4 = nI j4 ∧ v = some (.int (nI N)) ∧ S' = (n, u, HP (upd2 (gTh w) 44 25 (nI (N + 1))) (upd2 (upd2 (upd2 (upd2 (upd2 a 60 N x1) 61 N x2) 62 N x3) 63 N x4) 64 N 0) b r q y))
    ∨ (¬ (gin x1 20 ∧ gin x2 8 ∧ gin x3 10 ∧ gin x4 5 ∧ N < 100) ∧ v = some (.int (-1)) ∧ S' = (n, u, HP (gTh w) a b r q y))) := by
  have hk : gMT[115]? = some gro_115 := rfl
  refine r_in hk [some (.ref 44), some (.int x1), some (.int x2), some (.int x3), some (.int x4)] (Nat.le_of_ble_eq_true rfl) rfl ?_
  have e100 : w 44 25 = 100 ↔ N = 100 := by rw [hN]; exact nI_eq (a := N) (b := 100) (by omega) (by omega)
  have e1 : w 44 25 + 1 = nI (N + 1) := by rw [hN]; exact nI_1 N
  have e2 : w 44 25 + 1 - 1 = nI N := by rw [e1]; exact nI_pred N
  iterate 2 refine r_step hk rfl rfl rfl ?_
  refine r_putI hk rfl rfl rfl rfl ?_
  iterate 3 refine r_step hk rfl rfl rfl ?_
  refine r_callS hk [.int x1, .int 0, .int 19] [] rfl rfl rfl rfl rfl hd (m_within _ _ _ 19 (by decide)) ?_
  rintro _ _ ⟨⟨⟨j1, hj1, rfl⟩, rfl⟩ | ⟨hs, rfl⟩, rfl⟩
  · refine r_step hk rfl rfl rfl ?_
    refine r_eq (fun hq9 => absurd hq9 (by decide)) (fun _ => ?_)
    iterate 3 refine r_step hk rfl rfl rfl ?_
    refine r_callS hk [.int x2, .int 0, .int 7] [] rfl rfl rfl rfl rfl hd (m_within _ _ _ 7 (by decide)) ?_
    rintro _ _ ⟨⟨⟨j2, hj2, rfl⟩, rfl⟩ | ⟨hs, rfl⟩, rfl⟩
    · refine r_step hk rfl rfl rfl ?_
      refine r_eq (fun hq9 => absurd hq9 (by decide)) (fun _ => ?_)
      iterate 3 refine r_step hk rfl rfl rfl ?_
      refine r_callS hk [.int x3, .int 0, .int 9] [] rfl rfl rfl rfl rfl hd (m_within _ _ _ 9 (by decide)) ?_
      rintro _ _ ⟨⟨⟨j3, hj3, rfl⟩, rfl⟩ | ⟨hs, rfl⟩, rfl⟩
      · refine r_step hk rfl rfl rfl ?_
        refine r_eq (fun hq9 => absurd hq9 (by decide)) (fun _ => ?_)
        iterate 3 refine r_step hk rfl rfl rfl ?_
        refine r_callS hk [.int x4, .int 0, .int 4] [] rfl rfl rfl rfl rfl hd (m_within _ _ _ 4 (by decide)) ?_
        rintro _ _ ⟨⟨⟨j4, hj4, rfl⟩, rfl⟩ | ⟨hs, rfl⟩, rfl⟩
        · refine r_step hk rfl rfl rfl ?_
          refine r_eq (fun hq9 => absurd hq9 (by decide)) (fun _ => ?_)
          iterate 4 refine r_step hk rfl rfl rfl ?_
          refine r_ne (fun h51 => ?_) (fun h51 => ?_)
          · iterate 5 refine r_step hk rfl rfl rfl ?_
            refine r_is hk (N) rfl rfl rfl hN (by have := mt e100.mpr h51; omega) rfl rfl ?_
            iterate 5 refine r_step hk rfl rfl rfl ?_
            refine r_is hk (N) rfl rfl rfl hN (by have := mt e100.mpr h51; omega) rfl rfl ?_
            iterate 5 refine r_step hk rfl rfl rfl ?_
            refine r_is hk (N) rfl rfl rfl hN (by have := mt e100.mpr h51; omega) rfl rfl ?_
            iterate 5 refine r_step hk rfl rfl rfl ?_
            refine r_is hk (N) rfl rfl rfl hN (by have := mt e100.mpr h51; omega) rfl rfl ?_
            iterate 5 refine r_step hk rfl rfl rfl ?_
            refine r_is hk (N) rfl rfl rfl hN (by have := mt e100.mpr h51; omega) rfl rfl ?_
            iterate 5 refine r_step hk rfl rfl rfl ?_
            refine r_putI hk rfl rfl rfl rfl ?_
            iterate 4 refine r_step hk rfl rfl rfl ?_
            refine r_iret hk rfl trivial ?_
            exact Or.inl ⟨j1, j2, j3, j4, hj1, hj2, hj3, hj4, by have := mt e100.mpr h51; omega, rfl, rfl, rfl, rfl, congrArg (fun z => some (Value.int z)) e2, by rw [← e1]; rfl⟩
          · refine r_step hk rfl rfl rfl ?_
            refine r_iret hk rfl trivial ?_
            first | exact Or.inr ⟨fun h => absurd h.2.2.2.2 (by have := e100.mp h51; omega), rfl, rfl⟩ | exact Or.inr ⟨fun h => hs h.2.2.2.1, rfl, rfl⟩ | exact Or.inr ⟨fun h => hs h.2.2.1, rfl, rfl⟩ | exact Or.inr ⟨fun h => hs h.2.1, rfl, rfl⟩ | exact Or.inr ⟨fun h => hs h.1, rfl, rfl⟩
        · refine r_step hk rfl rfl rfl ?_
          refine r_eq (fun _ => ?_) (fun hq9 => absurd (by decide) hq9)
          refine r_step hk rfl rfl rfl ?_
          refine r_iret hk rfl trivial ?_
          first | exact Or.inr ⟨fun h => absurd h.2.2.2.2 (by have := e100.mp h51; omega), rfl, rfl⟩ | exact Or.inr ⟨fun h => hs h.2.2.2.1, rfl, rfl⟩ | exact Or.inr ⟨fun h => hs h.2.2.1, rfl, rfl⟩ | exact Or.inr ⟨fun h => hs h.2.1, rfl, rfl⟩ | exact Or.inr ⟨fun h => hs h.1, rfl, rfl⟩
      · refine r_step hk rfl rfl rfl ?_
        refine r_eq (fun _ => ?_) (fun hq9 => absurd (by decide) hq9)
        refine r_step hk rfl rfl rfl ?_
        refine r_iret hk rfl trivial ?_
        first | exact Or.inr ⟨fun h => absurd h.2.2.2.2 (by have := e100.mp h51; omega), rfl, rfl⟩ | exact Or.inr ⟨fun h => hs h.2.2.2.1, rfl, rfl⟩ | exact Or.inr ⟨fun h => hs h.2.2.1, rfl, rfl⟩ | exact Or.inr ⟨fun h => hs h.2.1, rfl, rfl⟩ | exact Or.inr ⟨fun h => hs h.1, rfl, rfl⟩
    · refine r_step hk rfl rfl rfl ?_
      refine r_eq (fun _ => ?_) (fun hq9 => absurd (by decide) hq9)
      refine r_step hk rfl rfl rfl ?_
      refine r_iret hk rfl trivial ?_
      first | exact Or.inr ⟨fun h => absurd h.2.2.2.2 (by have := e100.mp h51; omega), rfl, rfl⟩ | exact Or.inr ⟨fun h => hs h.2.2.2.1, rfl, rfl⟩ | exact Or.inr ⟨fun h => hs h.2.2.1, rfl, rfl⟩ | exact Or.inr ⟨fun h => hs h.2.1, rfl, rfl⟩ | exact Or.inr ⟨fun h => hs h.1, rfl, rfl⟩
  · refine r_step hk rfl rfl rfl ?_
    refine r_eq (fun _ => ?_) (fun hq9 => absurd (by decide) hq9)
    refine r_step hk rfl rfl rfl ?_
    refine r_iret hk rfl trivial ?_
    first | exact Or.inr ⟨fun h => absurd h.2.2.2.2 (by have := e100.mp h51; omega), rfl, rfl⟩ | exact Or.inr ⟨fun h => hs h.2.2.2.1, rfl, rfl⟩ | exact Or.inr ⟨fun h => hs h.2.2.1, rfl, rfl⟩ | exact Or.inr ⟨fun h => hs h.2.1, rfl, rfl⟩ | exact Or.inr ⟨fun h => hs h.1, rfl, rfl⟩
theorem m_helper {N : Nat} (hN : w 44 49 = nI N) (hN1 : N ≤ 10) (x : Int32) : gE d 150 [.ref 44, .int x] (n, u, HP w a b r q y) (fun v S' =>
    (∃ j, j < 4096 ∧ N < 10 ∧ x = nI j ∧ v = some (.int (nI N)) ∧ S' = (n, u, HP (upd2 (gTh w) 44 49 (nI (N + 1))) (upd2 a 80 N x) b r q y))
    ∨ (¬ (gin x 4096 ∧ N < 10) ∧ v = some (.int (-1)) ∧ S' = (n, u, HP (gTh w) a b r q y))) := by
  have hk : gMT[150]? = some gro_150 := rfl
  refine r_in hk [some (.ref 44), some (.int x)] (Nat.le_of_ble_eq_true rfl) rfl ?_
  have e100 : w 44 49 = 10 ↔ N = 10 := by rw [hN]; exact nI_eq (a := N) (b := 10) (by omega) (by omega)
  have e1 : w 44 49 + 1 = nI (N + 1) := by rw [hN]; exact nI_1 N
  have e2 : w 44 49 + 1 - 1 = nI N := by rw [e1]; exact nI_pred N
  iterate 2 refine r_step hk rfl rfl rfl ?_
  refine r_putI hk rfl rfl rfl rfl ?_
  iterate 2 refine r_step hk rfl rfl rfl ?_
  refine r_lt (fun h6 => ?_) (fun h6 => ?_)
  · refine r_step hk rfl rfl rfl ?_
    refine r_iret hk rfl trivial ?_
    first | exact Or.inr ⟨fun h => absurd h.2 (by have := e100.mp h22; omega), rfl, rfl⟩ | exact Or.inr ⟨fun h => gin_gt (M := 4095) h13 (by decide) h.1, rfl, rfl⟩ | exact Or.inr ⟨fun h => gin_lt h6 (by decide) h.1, rfl, rfl⟩
  · iterate 3 refine r_step hk rfl rfl rfl ?_
    refine r_gt (fun h13 => ?_) (fun h13 => ?_)
    · refine r_step hk rfl rfl rfl ?_
      refine r_iret hk rfl trivial ?_
      first | exact Or.inr ⟨fun h => absurd h.2 (by have := e100.mp h22; omega), rfl, rfl⟩ | exact Or.inr ⟨fun h => gin_gt (M := 4095) h13 (by decide) h.1, rfl, rfl⟩ | exact Or.inr ⟨fun h => gin_lt h6 (by decide) h.1, rfl, rfl⟩
    · iterate 4 refine r_step hk rfl rfl rfl ?_
      refine r_ne (fun h22 => ?_) (fun h22 => ?_)
      · iterate 5 refine r_step hk rfl rfl rfl ?_
        refine r_is hk (N) rfl rfl rfl hN (by have := mt e100.mpr h22; omega) rfl rfl ?_
        iterate 5 refine r_step hk rfl rfl rfl ?_
        refine r_putI hk rfl rfl rfl rfl ?_
        iterate 4 refine r_step hk rfl rfl rfl ?_
        refine r_iret hk rfl trivial ?_
        obtain ⟨j, hj, hx⟩ := gin_of' (M := 4095) h6 h13 (by decide)
        exact Or.inl ⟨j, hj, by have := mt e100.mpr h22; omega, hx, congrArg (fun z => some (Value.int z)) e2, by rw [← e1]; rfl⟩
      · refine r_step hk rfl rfl rfl ?_
        refine r_iret hk rfl trivial ?_
        first | exact Or.inr ⟨fun h => absurd h.2 (by have := e100.mp h22; omega), rfl, rfl⟩ | exact Or.inr ⟨fun h => gin_gt (M := 4095) h13 (by decide) h.1, rfl, rfl⟩ | exact Or.inr ⟨fun h => gin_lt h6 (by decide) h.1, rfl, rfl⟩
theorem nI_6 (i j : Nat) : 6 * nI i + nI j = nI (6 * i + j) := by
  rw [show (6 : Int32) = nI 6 from rfl, pk_mul, nI_add]
theorem m_way (hd : 1 ≤ d) (x1 x2 x3 : Int32) : gE d 147 [.ref 44, .int x1, .int x2, .int x3] (n, u, HP w a b r q y) (fun v S' =>
    (∃ i j k, i < 6 ∧ j < 6 ∧ i ≠ j ∧ k < 100 ∧ x1 = nI i ∧ x2 = nI j ∧ x3 = nI k ∧ v = some (.int 1) ∧ S' = (n, u, HP (gTh w) (upd2 (upd2 a 79 (6 * i + j) x3) 79 (6 * j + i) x3) b r q y))
    ∨ (¬ (gin x1 6 ∧ gin x2 6 ∧ x1 ≠ x2 ∧ gin x3 100) ∧ v = some (.int 0) ∧ S' = (n, u, HP (gTh w) a b r q y))) := by
  have hk : gMT[147]? = some gro_147 := rfl
  refine r_in hk [some (.ref 44), some (.int x1), some (.int x2), some (.int x3)] (Nat.le_of_ble_eq_true rfl) rfl ?_
  iterate 2 refine r_step hk rfl rfl rfl ?_
  refine r_putI hk rfl rfl rfl rfl ?_
  iterate 3 refine r_step hk rfl rfl rfl ?_
  refine r_callS hk [.int x1, .int 0, .int 5] [] rfl rfl rfl rfl rfl hd (m_within _ _ _ 5 (by decide)) ?_
  rintro _ _ ⟨⟨⟨i, hi, rfl⟩, rfl⟩ | ⟨hs, rfl⟩, rfl⟩
  · refine r_step hk rfl rfl rfl ?_
    refine r_eq (fun hq9 => absurd hq9 (by decide)) (fun _ => ?_)
    iterate 3 refine r_step hk rfl rfl rfl ?_
    refine r_callS hk [.int x2, .int 0, .int 5] [] rfl rfl rfl rfl rfl hd (m_within _ _ _ 5 (by decide)) ?_
    rintro _ _ ⟨⟨⟨j, hj, rfl⟩, rfl⟩ | ⟨hs, rfl⟩, rfl⟩
    · refine r_step hk rfl rfl rfl ?_
      refine r_eq (fun hq9 => absurd hq9 (by decide)) (fun _ => ?_)
      iterate 3 refine r_step hk rfl rfl rfl ?_
      refine r_eq (fun h25 => ?_) (fun h25 => ?_)
      · refine r_step hk rfl rfl rfl ?_
        refine r_iret hk rfl (Or.inl rfl) ?_
        first | exact Or.inr ⟨fun h => hs h.2.2.2, rfl, rfl⟩ | exact Or.inr ⟨fun h => h.2.2.1 h25, rfl, rfl⟩ | exact Or.inr ⟨fun h => hs h.2.1, rfl, rfl⟩ | exact Or.inr ⟨fun h => hs h.1, rfl, rfl⟩
      · iterate 3 refine r_step hk rfl rfl rfl ?_
        refine r_callS hk [.int x3, .int 0, .int 99] [] rfl rfl rfl rfl rfl hd (m_within _ _ _ 99 (by decide)) ?_
        rintro _ _ ⟨⟨⟨k, hk3, rfl⟩, rfl⟩ | ⟨hs, rfl⟩, rfl⟩
        · refine r_step hk rfl rfl rfl ?_
          refine r_ne (fun _ => ?_) (fun hq9 => absurd hq9 (by decide))
          iterate 8 refine r_step hk rfl rfl rfl ?_
          refine r_is hk (6 * i + j) rfl rfl rfl (nI_6 i j) (by omega) rfl rfl ?_
          iterate 8 refine r_step hk rfl rfl rfl ?_
          refine r_is hk (6 * j + i) rfl rfl rfl (nI_6 j i) (by omega) rfl rfl ?_
          refine r_step hk rfl rfl rfl ?_
          refine r_iret hk rfl (Or.inr rfl) ?_
          exact Or.inl ⟨i, j, k, hi, hj, fun e => h25 (by rw [e]), hk3, rfl, rfl, rfl, rfl, rfl⟩
        · refine r_step hk rfl rfl rfl ?_
          refine r_ne (fun hq9 => absurd (by decide) hq9) (fun _ => ?_)
          refine r_step hk rfl rfl rfl ?_
          refine r_iret hk rfl (Or.inl rfl) ?_
          first | exact Or.inr ⟨fun h => hs h.2.2.2, rfl, rfl⟩ | exact Or.inr ⟨fun h => h.2.2.1 h25, rfl, rfl⟩ | exact Or.inr ⟨fun h => hs h.2.1, rfl, rfl⟩ | exact Or.inr ⟨fun h => hs h.1, rfl, rfl⟩
    · refine r_step hk rfl rfl rfl ?_
      refine r_eq (fun _ => ?_) (fun hq9 => absurd (by decide) hq9)
      refine r_step hk rfl rfl rfl ?_
      refine r_iret hk rfl (Or.inl rfl) ?_
      first | exact Or.inr ⟨fun h => hs h.2.2.2, rfl, rfl⟩ | exact Or.inr ⟨fun h => h.2.2.1 h25, rfl, rfl⟩ | exact Or.inr ⟨fun h => hs h.2.1, rfl, rfl⟩ | exact Or.inr ⟨fun h => hs h.1, rfl, rfl⟩
  · refine r_step hk rfl rfl rfl ?_
    refine r_eq (fun _ => ?_) (fun hq9 => absurd (by decide) hq9)
    refine r_step hk rfl rfl rfl ?_
    refine r_iret hk rfl (Or.inl rfl) ?_
    first | exact Or.inr ⟨fun h => hs h.2.2.2, rfl, rfl⟩ | exact Or.inr ⟨fun h => h.2.2.1 h25, rfl, rfl⟩ | exact Or.inr ⟨fun h => hs h.2.1, rfl, rfl⟩ | exact Or.inr ⟨fun h => hs h.1, rfl, rfl⟩
theorem m_seasonNow {T : Nat} (hT : w 44 24 = nI T) (hT1 : T < 1000) : gE d 124 [.ref 44] (n, u, HP w a b r q y) (gre (nI (T / 13 % 4)) (n, u, HP w a b r q y)) := by
  have hk : gMT[124]? = some gro_124 := rfl
  refine r_in hk [some (.ref 44)] (Nat.le_of_ble_eq_true rfl) rfl ?_
  have e1 : w 44 24 / 13 = nI (T / 13) := by rw [hT]; exact pk_div (d := 13) (by omega) (by decide) (by decide)
  iterate 3 refine r_step hk rfl rfl rfl ?_
  refine r_div hk rfl (by decide) ?_
  refine r_step hk rfl rfl rfl ?_
  refine r_rem hk rfl (by decide) ?_
  refine r_iret hk rfl trivial ?_
  refine ⟨congrArg (fun z => some (Value.int z)) ?_, rfl⟩
  show w 44 24 / 13 - w 44 24 / 13 / 4 * 4 = _
  rw [e1]
  exact pk_rem (d := 4) (by omega) (by decide) (by decide)
/-- a price, as both write it -/
def gpr (base now since : Int32) : Int32 := if 1 ≤ base * (10 - 2 * (now - since)) / 10 then base * (10 - 2 * (now - since)) / 10 else 1
theorem m_priceOf {t k : Nat} (ht : t < 100) (hk8 : k < 8) (hkd : a 61 t = nI k) : gE d 136 [.ref 44, .int (nI t)] (n, u, HP w a b r q y) (gre (gpr (a 68 k) (w 44 24) (a 66 t)) (n, u, HP w a b r q y)) := by
  have hk : gMT[136]? = some gro_136 := rfl
  refine r_in hk [some (.ref 44), some (.int (nI t)), none] (Nat.le_of_ble_eq_true rfl) rfl ?_
  iterate 5 refine r_step hk rfl rfl rfl ?_
  refine r_ia hk (t) rfl rfl rfl ht rfl ?_
  refine r_ia hk (k) rfl rfl hkd hk8 rfl ?_
  iterate 7 refine r_step hk rfl rfl rfl ?_
  refine r_ia hk (t) rfl rfl rfl ht rfl ?_
  iterate 5 refine r_step hk rfl rfl rfl ?_
  refine r_div hk rfl (by decide) ?_
  iterate 4 refine r_step hk rfl rfl rfl ?_
  refine r_ge (fun h34 => ?_) (fun h34 => ?_)
  · refine r_step hk rfl rfl rfl ?_
    refine r_iret hk rfl trivial ?_
    refine ⟨congrArg (fun z => some (Value.int z)) ?_, rfl⟩
    unfold gpr
    first | exact (if_pos (by assumption)).symm | exact (if_neg (by assumption)).symm
  · iterate 2 refine r_step hk rfl rfl rfl ?_
    refine r_iret hk rfl trivial ?_
    refine ⟨congrArg (fun z => some (Value.int z)) ?_, rfl⟩
    unfold gpr
    first | exact (if_pos (by assumption)).symm | exact (if_neg (by assumption)).symm
theorem m_price (hd : 2 ≤ d) {N : Nat} (hN : w 44 25 = nI N) (hN1 : N ≤ 100) (hkd : ∀ t, t < N → gin (a 61 t) 8) (x : Int32) : gE d 134 [.ref 44, .int x] (n, u, HP w a b r q y) (fun v S' => S' = (n, u, HP (gTh w) a b r q y) ∧
    ((∃ t k, t < N ∧ k < 8 ∧ x = nI t ∧ a 64 t = 1 ∧ a 61 t = nI k ∧ v = some (.int (gpr (a 68 k) (w 44 24) (a 66 t)))) ∨ ((¬ ∃ t, t < N ∧ x = nI t ∧ a 64 t = 1) ∧ v = some (.int (-1))))) := by
  have hk : gMT[134]? = some gro_134 := rfl
  refine r_in hk [some (.ref 44), some (.int x)] (Nat.le_of_ble_eq_true rfl) rfl ?_
  iterate 2 refine r_step hk rfl rfl rfl ?_
  refine r_putI hk rfl rfl rfl rfl ?_
  iterate 2 refine r_step hk rfl rfl rfl ?_
  refine r_callV hk [.ref 44, .int x] [] rfl rfl rfl rfl rfl rfl rfl (by omega) (m_isOn (w := gTh w) (by omega) hN hN1 x) ?_
  rintro _ _ ⟨⟨⟨t, ht, rfl, hon⟩, rfl⟩ | ⟨hs, rfl⟩, rfl⟩
  · obtain ⟨k, hk8, hk1⟩ := hkd t ht
    refine r_step hk rfl rfl rfl ?_
    refine r_eq (fun hq9 => absurd hq9 (by decide)) (fun _ => ?_)
    iterate 2 refine r_step hk rfl rfl rfl ?_
    refine r_callV hk [.ref 44, .int (nI t)] [] rfl rfl rfl rfl rfl rfl rfl (by omega) (m_priceOf (by omega) hk8 hk1) ?_
    rintro _ _ ⟨rfl, rfl⟩
    refine r_step hk rfl rfl rfl ?_
    refine r_iret hk rfl trivial ?_
    first | exact ⟨rfl, Or.inl ⟨t, k, ht, hk8, rfl, hon, hk1, rfl⟩⟩ | exact ⟨rfl, Or.inr ⟨hs, rfl⟩⟩
  · refine r_step hk rfl rfl rfl ?_
    refine r_eq (fun _ => ?_) (fun hq9 => absurd (by decide) hq9)
    refine r_step hk rfl rfl rfl ?_
    refine r_iret hk rfl trivial ?_
    first | exact ⟨rfl, Or.inl ⟨t, k, ht, hk8, rfl, hon, hk1, rfl⟩⟩ | exact ⟨rfl, Or.inr ⟨hs, rfl⟩⟩
theorem m_lose (hd : 2 ≤ d) {N : Nat} (hN : w 44 25 = nI N) (hN1 : N ≤ 100) (x : Int32) : gE d 139 [.ref 44, .int x] (n, u, HP w a b r q y) (fun v S' =>
    (∃ t, t < N ∧ x = nI t ∧ a 64 t = 1 ∧ v = some (.int 1) ∧ S' = (n, u, HP (gTh w) (upd2 a 64 t 6) b r q y)) ∨ ((¬ ∃ t, t < N ∧ x = nI t ∧ a 64 t = 1) ∧ v = some (.int 0) ∧ S' = (n, u, HP (gTh w) a b r q y))) := by
  have hk : gMT[139]? = some gro_139 := rfl
  refine r_in hk [some (.ref 44), some (.int x)] (Nat.le_of_ble_eq_true rfl) rfl ?_
  iterate 2 refine r_step hk rfl rfl rfl ?_
  refine r_putI hk rfl rfl rfl rfl ?_
  iterate 2 refine r_step hk rfl rfl rfl ?_
  refine r_callV hk [.ref 44, .int x] [] rfl rfl rfl rfl rfl rfl rfl (by omega) (m_isOn (w := gTh w) (by omega) hN hN1 x) ?_
  rintro _ _ ⟨⟨⟨t, ht, rfl, hon⟩, rfl⟩ | ⟨hs, rfl⟩, rfl⟩
  · refine r_step hk rfl rfl rfl ?_
    refine r_ne (fun _ => ?_) (fun hq9 => absurd hq9 (by decide))
    iterate 4 refine r_step hk rfl rfl rfl ?_
    refine r_is hk (t) rfl rfl rfl rfl (by omega) rfl rfl ?_
    refine r_step hk rfl rfl rfl ?_
    refine r_iret hk rfl (Or.inr rfl) ?_
    first | exact Or.inl ⟨t, ht, rfl, hon, rfl, rfl⟩ | exact Or.inr ⟨hs, rfl, rfl⟩
  · refine r_step hk rfl rfl rfl ?_
    refine r_ne (fun hq9 => absurd (by decide) hq9) (fun _ => ?_)
    refine r_step hk rfl rfl rfl ?_
    refine r_iret hk rfl (Or.inl rfl) ?_
    first | exact Or.inl ⟨t, ht, rfl, hon, rfl, rfl⟩ | exact Or.inr ⟨hs, rfl, rfl⟩
theorem m_comesOn {t : Nat} (ht : t < 100) (x : Int32) : gE d 128 [.ref 44, .int (nI t), .int x] (n, u, HP w a b r q y) (fun v S' => v = none ∧ S' = (n, u, HP w (upd2 (upd2 (upd2 a 64 t 1) 65 t x) 66 t (w 44 24)) b r q y)) := by
  have hk : gMT[128]? = some gro_128 := rfl
  refine r_in hk [some (.ref 44), some (.int (nI t)), some (.int x)] (Nat.le_of_ble_eq_true rfl) rfl ?_
  iterate 4 refine r_step hk rfl rfl rfl ?_
  refine r_is hk (t) rfl rfl rfl rfl ht rfl rfl ?_
  iterate 4 refine r_step hk rfl rfl rfl ?_
  refine r_is hk (t) rfl rfl rfl rfl ht rfl rfl ?_
  iterate 5 refine r_step hk rfl rfl rfl ?_
  refine r_is hk (t) rfl rfl rfl rfl ht rfl rfl ?_
  refine r_ret hk rfl rfl ?_
  exact ⟨rfl, rfl⟩
theorem m_sell (hd : 2 ≤ d) {N M : Nat} (hN : w 44 25 = nI N) (hN1 : N ≤ 100) (hM : w 44 41 = nI M) (hM1 : M ≤ 200) (hkd : ∀ t, t < N → gin (a 61 t) 8) (x : Int32) : gE d 137 [.ref 44, .int x] (n, u, HP w a b r q y) (fun v S' =>
    (∃ t k, t < N ∧ k < 8 ∧ x = nI t ∧ a 64 t = 1 ∧ a 61 t = nI k ∧ M < 200 ∧ v = some (.int (nI M)) ∧ S' = (n, u, HP (upd2 (gTh w) 44 41 (nI (M + 1))) (upd2 (upd2 (upd2 (upd2 (upd2 a 74 M x) 75 M (gpr (a 68 k) (w 44 24) (a 66 t))) 76 M (a 65 t)) 77 M (w 44 24)) 64 t 5) b r q y))
    ∨ (¬ ((∃ t, t < N ∧ x = nI t ∧ a 64 t = 1) ∧ M < 200) ∧ v = some (.int (-1)) ∧ S' = (n, u, HP (gTh w) a b r q y))) := by
  have hk : gMT[137]? = some gro_137 := rfl
  refine r_in hk [some (.ref 44), some (.int x)] (Nat.le_of_ble_eq_true rfl) rfl ?_
  have e100 : w 44 41 = 200 ↔ M = 200 := by rw [hM]; exact nI_eq (a := M) (b := 200) (by omega) (by omega)
  have e1 : w 44 41 + 1 = nI (M + 1) := by rw [hM]; exact nI_1 M
  have e2 : w 44 41 + 1 - 1 = nI M := by rw [e1]; exact nI_pred M
  iterate 2 refine r_step hk rfl rfl rfl ?_
  refine r_putI hk rfl rfl rfl rfl ?_
  iterate 2 refine r_step hk rfl rfl rfl ?_
  refine r_callV hk [.ref 44, .int x] [] rfl rfl rfl rfl rfl rfl rfl (by omega) (m_isOn (w := gTh w) (by omega) hN hN1 x) ?_
  rintro _ _ ⟨⟨⟨t, ht, rfl, hon⟩, rfl⟩ | ⟨hs, rfl⟩, rfl⟩
  · obtain ⟨k, hk8, hk1⟩ := hkd t ht
    refine r_step hk rfl rfl rfl ?_
    refine r_eq (fun hq9 => absurd hq9 (by decide)) (fun _ => ?_)
    iterate 4 refine r_step hk rfl rfl rfl ?_
    refine r_ne (fun h20 => ?_) (fun h20 => ?_)
    · iterate 5 refine r_step hk rfl rfl rfl ?_
      refine r_is hk (M) rfl rfl rfl hM (by have := mt e100.mpr h20; omega) rfl rfl ?_
      iterate 6 refine r_step hk rfl rfl rfl ?_
      refine r_callV hk [.ref 44, .int (nI t)] [.int (w 44 41), .ref 75] rfl rfl rfl rfl rfl rfl rfl (by omega) (m_priceOf (by omega) hk8 hk1) ?_
      rintro _ _ ⟨rfl, rfl⟩
      refine r_is hk (M) rfl rfl rfl hM (by have := mt e100.mpr h20; omega) rfl rfl ?_
      iterate 7 refine r_step hk rfl rfl rfl ?_
      refine r_ia hk (t) rfl rfl rfl (by omega) rfl ?_
      refine r_is hk (M) rfl rfl rfl hM (by have := mt e100.mpr h20; omega) rfl rfl ?_
      iterate 6 refine r_step hk rfl rfl rfl ?_
      refine r_is hk (M) rfl rfl rfl hM (by have := mt e100.mpr h20; omega) rfl rfl ?_
      iterate 4 refine r_step hk rfl rfl rfl ?_
      refine r_is hk (t) rfl rfl rfl rfl (by omega) rfl rfl ?_
      iterate 5 refine r_step hk rfl rfl rfl ?_
      refine r_putI hk rfl rfl rfl rfl ?_
      iterate 4 refine r_step hk rfl rfl rfl ?_
      refine r_iret hk rfl trivial ?_
      exact Or.inl ⟨t, k, ht, hk8, rfl, hon, hk1, by have := mt e100.mpr h20; omega, congrArg (fun z => some (Value.int z)) e2, by rw [← e1]; rfl⟩
    · refine r_step hk rfl rfl rfl ?_
      refine r_iret hk rfl trivial ?_
      first | exact Or.inr ⟨fun h => absurd h.2 (by have := e100.mp h20; omega), rfl, rfl⟩ | exact Or.inr ⟨fun h => hs h.1, rfl, rfl⟩
  · refine r_step hk rfl rfl rfl ?_
    refine r_eq (fun _ => ?_) (fun hq9 => absurd (by decide) hq9)
    refine r_step hk rfl rfl rfl ?_
    refine r_iret hk rfl trivial ?_
    first | exact Or.inr ⟨fun h => absurd h.2 (by have := e100.mp h20; omega), rfl, rfl⟩ | exact Or.inr ⟨fun h => hs h.1, rfl, rfl⟩
theorem m_undo17 (hk : gMT[138]? = some gro_138) {N M j t : Nat} (hj : j < M) (ht : t < N) (ht1 : a 74 j = nI t) (hM1 : M ≤ 200) (hN1 : N ≤ 100) : gX d 138 17 [some (.ref 44), some (.int (nI j))] [] (n, u, HP (gTh w) a b r q y) (fun v S' =>
    (∃ j' t, j' < M ∧ t < N ∧ nI j = nI j' ∧ a 74 j' = nI t ∧ a 78 j' = 0 ∧ v = some (.int 1) ∧ S' = (n, u, HP (gTh w) (upd2 (upd2 a 78 j' 1) 64 t 1) b r q y))
    ∨ ((¬ ∃ j', j' < M ∧ nI j = nI j' ∧ a 78 j' = 0) ∧ v = some (.int 0) ∧ S' = (n, u, HP (gTh w) a b r q y))) := by
  iterate 3 refine r_step hk rfl rfl rfl ?_
  refine r_za hk (j) rfl rfl rfl (by omega) rfl ?_
  refine r_step hk rfl rfl rfl ?_
  refine r_eq (fun h23 => ?_) (fun h23 => ?_)
  · iterate 4 refine r_step hk rfl rfl rfl ?_
    refine r_zs hk (j) rfl rfl rfl rfl (by omega) rfl rfl (Or.inr rfl) ?_
    iterate 5 refine r_step hk rfl rfl rfl ?_
    refine r_ia hk (j) rfl rfl rfl (by omega) rfl ?_
    refine r_step hk rfl rfl rfl ?_
    refine r_is hk (t) rfl rfl rfl ht1 (by omega) rfl rfl ?_
    refine r_step hk rfl rfl rfl ?_
    refine r_iret hk rfl (Or.inr rfl) ?_
    first | exact Or.inl ⟨j, t, hj, ht, rfl, ht1, h23, rfl, rfl⟩ | exact Or.inr ⟨fun ⟨j2, hj2, e, h0⟩ => h23 (by rw [nI_inj e (by omega) (by omega)]; exact h0), rfl, rfl⟩
  · refine r_step hk rfl rfl rfl ?_
    refine r_iret hk rfl (Or.inl rfl) ?_
    first | exact Or.inl ⟨j, t, hj, ht, rfl, ht1, h23, rfl, rfl⟩ | exact Or.inr ⟨fun ⟨j2, hj2, e, h0⟩ => h23 (by rw [nI_inj e (by omega) (by omega)]; exact h0), rfl, rfl⟩
theorem m_undo {N M : Nat} (hN1 : N ≤ 100) (hM : w 44 41 = nI M) (hM1 : M ≤ 200) (hst : ∀ j, j < M → gin (a 74 j) N) (x : Int32) : gE d 138 [.ref 44, .int x] (n, u, HP w a b r q y) (fun v S' =>
    (∃ j t, j < M ∧ t < N ∧ x = nI j ∧ a 74 j = nI t ∧ a 78 j = 0 ∧ v = some (.int 1) ∧ S' = (n, u, HP (gTh w) (upd2 (upd2 a 78 j 1) 64 t 1) b r q y))
    ∨ ((¬ ∃ j, j < M ∧ x = nI j ∧ a 78 j = 0) ∧ v = some (.int 0) ∧ S' = (n, u, HP (gTh w) a b r q y))) := by
  have hk : gMT[138]? = some gro_138 := rfl
  refine r_in hk [some (.ref 44), some (.int x)] (Nat.le_of_ble_eq_true rfl) rfl ?_
  iterate 2 refine r_step hk rfl rfl rfl ?_
  refine r_putI hk rfl rfl rfl rfl ?_
  iterate 2 refine r_step hk rfl rfl rfl ?_
  refine r_lt (fun h6 => ?_) (fun h6 => ?_)
  · refine r_step hk rfl rfl rfl ?_
    refine r_iret hk rfl (Or.inl rfl) ?_
    first | exact Or.inr ⟨fun ⟨j, hj, e, _⟩ => gin_ge (N := M) (by rw [← hM]; exact h14) (by omega) ⟨j, hj, e⟩, rfl, rfl⟩ | exact Or.inr ⟨fun ⟨j, hj, e, _⟩ => gin_lt h6 (by omega) ⟨j, hj, e⟩, rfl, rfl⟩
  · iterate 4 refine r_step hk rfl rfl rfl ?_
    refine r_ge (fun h14 => ?_) (fun h14 => ?_)
    · refine r_step hk rfl rfl rfl ?_
      refine r_iret hk rfl (Or.inl rfl) ?_
      first | exact Or.inr ⟨fun ⟨j, hj, e, _⟩ => gin_ge (N := M) (by rw [← hM]; exact h14) (by omega) ⟨j, hj, e⟩, rfl, rfl⟩ | exact Or.inr ⟨fun ⟨j, hj, e, _⟩ => gin_lt h6 (by omega) ⟨j, hj, e⟩, rfl, rfl⟩
    · obtain ⟨j, hj, rfl⟩ := gin_of (N := M) h6 (by rw [← hM]; exact h14) (by omega)
      obtain ⟨t, ht, ht1⟩ := hst j hj
      exact m_undo17 hk hj ht ht1 hM1 hN1
end GM2
