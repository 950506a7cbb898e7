/-! ===== a week of the reference ===== -/
def gfst (N : Nat) (rm : Nat → Int32) (X : gP3) : Nat := if gRoom N rm X 0 then 0 else if gRoom N rm X 1 then 1 else if gRoom N rm X 2 then 2 else if gRoom N rm X 3 then 3 else if gRoom N rm X 4 then 4 else 0
theorem gfst_lt (N : Nat) (rm : Nat → Int32) (X : gP3) : gfst N rm X < 5 := by
  unfold gfst
  repeat (first | omega | split)
theorem gfst_of {N : Nat} {rm : Nat → Int32} {X : gP3} {s : Nat} (hs : s < 5) (h : gRoom N rm X s) (ha : ∀ s', s' < s → ¬ gRoom N rm X s') : s = gfst N rm X := by
  unfold gfst
  match s, hs, h, ha with
  | 0, _, h, _ => rw [if_pos h]
  | 1, _, h, ha => rw [if_neg (ha 0 (by omega)), if_pos h]
  | 2, _, h, ha => rw [if_neg (ha 0 (by omega)), if_neg (ha 1 (by omega)), if_pos h]
  | 3, _, h, ha => rw [if_neg (ha 0 (by omega)), if_neg (ha 1 (by omega)), if_neg (ha 2 (by omega)), if_pos h]
  | 4, _, h, ha => rw [if_neg (ha 0 (by omega)), if_neg (ha 1 (by omega)), if_neg (ha 2 (by omega)), if_neg (ha 3 (by omega)), if_pos h]
theorem gfst_no {N : Nat} {rm : Nat → Int32} {X : gP3} (ha : ∀ s', s' < 5 → ¬ gRoom N rm X s') : 0 = gfst N rm X := by
  unfold gfst
  rw [if_neg (ha 0 (by omega)), if_neg (ha 1 (by omega)), if_neg (ha 2 (by omega)), if_neg (ha 3 (by omega)), if_neg (ha 4 (by omega))]
def gsea (N : Nat) (rm : Nat → Int32) (now : Int32) (wy : Nat → Nat) (se : Nat → Int32) (ssn : Int32) : Nat → gP3 → gP3
  | 0, X => X
  | t + 1, X => if (gsea N rm now wy se ssn t X).1 t = 2 ∧ (se t = 4 ∨ se t = ssn) then gsrt N rm now (wy t) (gsea N rm now wy se ssn t X) t (gfst N rm (gsea N rm now wy se ssn t X)) else gsea N rm now wy se ssn t X
def glc (pl sh kd : Nat → Int32) (j N : Nat) : Nat := gcnt (fun t => pl t = 1 ∧ 8 * (sh t).toNatClampNeg + (kd t).toNatClampNeg = j) N
def grag (N : Nat) (now : Int32) (X : gP3) : gP3 := (fun t => if t < N ∧ X.1 t = 1 ∧ ¬ now - X.2.2 t < 5 then 3 else X.1 t, X.2.1, X.2.2)
theorem grag_s {N t : Nat} {now : Int32} {X : gP3} (h : X.1 t = 1) (h5 : ¬ now - X.2.2 t < 5) : gu (grag t now X).1 t 3 = (grag (t + 1) now X).1 := by
  funext i
  simp only [gu, grag]
  by_cases e : i = t
  · subst e; simp [h, h5]
  · simp only [e, if_false]
    by_cases hi : i < t
    · simp [hi, show i < t + 1 by omega]
    · simp [hi, show ¬ i < t + 1 by omega]
theorem grag_n {t : Nat} {now : Int32} {X : gP3} (h : ¬ (X.1 t = 1 ∧ ¬ now - X.2.2 t < 5)) : (grag t now X).1 = (grag (t + 1) now X).1 := by
  funext i
  simp only [grag]
  by_cases e : i = t
  · subst e
    rw [if_neg (by omega), if_neg (fun z => h z.2)]
  · by_cases hi : i < t
    · simp [hi, show i < t + 1 by omega]
    · simp [hi, show ¬ i < t + 1 by omega]
theorem grag_t {t : Nat} {now : Int32} {X : gP3} : (grag t now X).1 t = X.1 t := by simp [grag]
theorem glc_s {a a1 : Nat → Nat → Int32} {t ix : Nat} (h1 : a 64 t = 1) (hix : 8 * (a 65 t).toNatClampNeg + (a 61 t).toNatClampNeg = ix) (h : ∀ j, a1 70 j = a 70 j + nI (glc (a 64) (a 65) (a 61) j t)) (j : Nat) : upd2 a1 70 ix (a1 70 ix + 1) 70 j = a 70 j + nI (glc (a 64) (a 65) (a 61) j (t + 1)) := by
  rw [upd2_at]
  by_cases e : j = ix
  · subst e
    simp only [if_true]
    rw [h]
    show _ = _ + nI (glc (a 64) (a 65) (a 61) j t + if a 64 t = 1 ∧ 8 * (a 65 t).toNatClampNeg + (a 61 t).toNatClampNeg = j then 1 else 0)
    rw [if_pos ⟨h1, hix⟩, Int32.add_assoc, nI_1]
  · simp only [e, if_false]
    rw [h]
    show _ = _ + nI (glc (a 64) (a 65) (a 61) j t + if a 64 t = 1 ∧ 8 * (a 65 t).toNatClampNeg + (a 61 t).toNatClampNeg = j then 1 else 0)
    rw [if_neg (fun hc => e (hc.2.symm.trans hix)), Nat.add_zero]
theorem glc_n {a a1 : Nat → Nat → Int32} {t j : Nat} (h1 : ¬ a 64 t = 1) (h : a1 70 j = a 70 j + nI (glc (a 64) (a 65) (a 61) j t)) : a1 70 j = a 70 j + nI (glc (a 64) (a 65) (a 61) j (t + 1)) := by
  rw [h]
  show _ = _ + nI (glc (a 64) (a 65) (a 61) j t + if a 64 t = 1 ∧ 8 * (a 65 t).toNatClampNeg + (a 61 t).toNatClampNeg = j then 1 else 0)
  rw [if_neg (fun hc => h1 hc.1), Nat.add_zero]
section GM7
variable {w a : Nat → Nat → Int32} {b : Nat → Nat → Int64} {r : Nat → Nat → Nat} {q : Nat → Nat → Option Nat} {y : gH} {n u : Nat} {d : Nat}
theorem m_week (hd : 4 ≤ d) {N T h : Nat} (hN : w 44 25 = nI N) (hN1 : N ≤ 100) (hT : w 44 24 = nI T) (hT1 : T < 519) (hh : w 44 15 = nI h) (hh1 : h < 2) {ls : List (Nat × List Nat)} (hls : gmText a h ls) (hkd : ∀ t, t < N → gin (a 61 t) 8) (hsh : ∀ t, t < N → gin (a 65 t) 5) :
    gE d 132 [.ref 44] (n, u, HP w a b r q y) (fun v S' => v = none ∧ ∃ a', gag [58, 59, 64, 65, 66, 70, 73] a a' ∧ (∀ j, a' 70 j = a 70 j + nI (glc (a 64) (a 65) (a 61) j N)) ∧ a' 73 = gu (a 73) (T / 52) (w 44 39)
      ∧ gXo a' = (if (T + 1) % 13 = 0 then gsea N (a 69) (nI (T + 1)) (fun t => gway (gfa a (T + 1) t (a 61 t).toNatClampNeg) ls) (a 63) (nI ((T + 1) / 13 % 4)) N (grag N (nI (T + 1)) (gXo a)) else grag N (nI (T + 1)) (gXo a))
      ∧ S' = (n, u, HP (upd2 w 44 24 (nI (T + 1))) a' b r q y)) := by
  have hk : gMT[132]? = some gro_132 := rfl
  refine r_in hk [some (.ref 44), none] (Nat.le_of_ble_eq_true rfl) rfl ?_
  generalize hQ : (fun (v : Option Value) (S' : gS) => v = none ∧ ∃ a', gag [58, 59, 64, 65, 66, 70, 73] a a' ∧ (∀ j, a' 70 j = a 70 j + nI (glc (a 64) (a 65) (a 61) j N)) ∧ a' 73 = gu (a 73) (T / 52) (w 44 39)
      ∧ gXo a' = (if (T + 1) % 13 = 0 then gsea N (a 69) (nI (T + 1)) (fun t => gway (gfa a (T + 1) t (a 61 t).toNatClampNeg) ls) (a 63) (nI ((T + 1) / 13 % 4)) N (grag N (nI (T + 1)) (gXo a)) else grag N (nI (T + 1)) (gXo a))
      ∧ S' = (n, u, HP (upd2 w 44 24 (nI (T + 1))) a' b r q y)) = Q
  have eT : w 44 24 + 1 = nI (T + 1) := by rw [hT]; exact nI_1 T
  have erem : nI (T + 1) - nI (T + 1) / 13 * 13 = nI ((T + 1) % 13) := pk_rem (a := T + 1) (d := 13) (by omega) (by decide) (by decide)
  -- the third loop
  have loop3 : ∀ (t : Nat), t ≤ N → ∀ (a1 : Nat → Nat → Int32) (z : Int32), gag [58, 59, 64, 65, 66, 70, 73] a a1 → (∀ j, a1 70 j = a 70 j + nI (glc (a 64) (a 65) (a 61) j N)) → a1 73 = gu (a 73) (T / 52) (w 44 39) → (T + 1) % 13 = 0 → gXo a1 = gsea N (a 69) (nI (T + 1)) (fun t => gway (gfa a (T + 1) t (a 61 t).toNatClampNeg) ls) (a 63) (nI ((T + 1) / 13 % 4)) t (grag N (nI (T + 1)) (gXo a)) → z = nI t →
      gX d 132 127 [some (.ref 44), some (.int z)] [] (n, u, HP (upd2 w 44 24 (nI (T + 1))) a1 b r q y) Q := by
    refine g_down ?_ ?_
    · intro a1 z hag h70 h73 h13 hX hz
      iterate 4 refine r_step hk rfl rfl rfl ?_
      refine r_ge (fun _ => ?_) (fun hq9 => absurd (show w 44 25 ≤ z by rw [hz, hN]; exact nI_le (Nat.le_refl _) (by omega)) hq9)
      refine r_ret hk rfl rfl ?_
      rw [← hQ]
      exact ⟨rfl, a1, hag, h70, h73, by rw [if_pos h13]; exact hX, rfl⟩
    · intro t ht ih a1 z hag h70 h73 h13 hX hz
      obtain ⟨k, hk8, ek⟩ := hkd t ht
      have e61 : a1 61 = a 61 := hag 61 (by decide)
      have e63 : a1 63 = a 63 := hag 63 (by decide)
      have e69 : a1 69 = a 69 := hag 69 (by decide)
      have ekn : (a 61 t).toNatClampNeg = k := by rw [ek]; exact nI_clamp (by omega)
      have hX1 : a1 64 t = (gsea N (a 69) (nI (T + 1)) (fun t => gway (gfa a (T + 1) t (a 61 t).toNatClampNeg) ls) (a 63) (nI ((T + 1) / 13 % 4)) t (grag N (nI (T + 1)) (gXo a))).1 t := by rw [← hX]
      have stay : ¬ (a1 64 t = 2 ∧ (a1 63 t = 4 ∨ a1 63 t = nI ((T + 1) / 13 % 4))) → gX d 132 127 [some (.ref 44), some (.int (z + 1))] [] (n, u, HP (upd2 w 44 24 (nI (T + 1))) a1 b r q y) Q := by
        intro hno
        refine ih a1 _ hag h70 h73 h13 ?_ (nI_s hz)
        rw [hX]
        conv => rhs; unfold gsea
        rw [if_neg (by rw [← hX1, ← e63]; exact hno)]
      have hfa : gfa a1 (T + 1) t k = gfa a (T + 1) t k := by
        unfold gfa
        rw [e61, e63, hag 62 (by decide), hag 68 (by decide), hag 60 (by decide)]
      have srt : a1 64 t = 2 → (a1 63 t = 4 ∨ a1 63 t = nI ((T + 1) / 13 % 4)) → gX d 132 178 [some (.ref 44), some (.int z)] [] (n, u, HP (upd2 w 44 24 (nI (T + 1))) a1 b r q y) Q := by
        intro h2 h4
        have fin : ∀ s, s < 5 → s = gfst N (a 69) (gXo a1) → gX d 132 184 [some (.ref 44), some (.int z)] [.int (nI s), .int z, .ref 44] (n, u, HP (upd2 w 44 24 (nI (T + 1))) a1 b r q y) Q := by
          intro s hs hsf
          subst hz
          refine r_callV hk [.ref 44, .int (nI t), .int (nI s)] [] rfl rfl rfl rfl rfl rfl rfl (by omega) (m_sorts (w := upd2 w 44 24 (nI (T + 1))) (by omega) hN hN1 rfl (by omega) (by omega) hk8 (by rw [e61]; exact ek) hh hh1 hs (gmText_ag hag (by decide) hls)) ?_
          rintro _ _ ⟨rfl, a2, hag2, hX2, rfl⟩
          iterate 2 refine r_step hk rfl rfl rfl ?_
          refine ih a2 _ (gag_tr hag (gag_sub hag2 (by decide))) (fun j => by rw [hag2 70 (by decide)]; exact h70 j) (by rw [hag2 73 (by decide)]; exact h73) h13 ?_ (nI_1 t)
          rw [hX2, hfa, e69, hsf]
          conv => rhs; unfold gsea
          rw [if_pos (by rw [← hX1, ← e63]; exact ⟨h2, h4⟩), ← hX, ekn]
        iterate 3 refine r_step hk rfl rfl rfl ?_
        refine r_callV hk [.ref 44] [.int z, .ref 44] rfl rfl rfl rfl rfl rfl rfl (by omega) (m_firstWithRoom (w := upd2 w 44 24 (nI (T + 1))) (by omega) hN hN1) ?_
        rintro _ _ ⟨rfl, ⟨s, hs, rfl, hr, ha⟩ | ⟨ha, rfl⟩⟩
        · exact fin s hs (gfst_of hs (by rw [← e69]; exact hr) (fun s' h' => by rw [← e69]; exact ha s' h'))
        · exact fin 0 (by decide) (gfst_no (fun s' h' => by rw [← e69]; exact ha s' h'))
      iterate 4 refine r_step hk rfl rfl rfl ?_
      refine r_ge (fun hq9 => absurd hq9 (show ¬ w 44 25 ≤ z by rw [hz, hN]; exact nI_ge ht (by omega))) (fun _ => ?_)
      iterate 3 refine r_step hk rfl rfl rfl ?_
      refine r_rem hk rfl (by decide) ?_
      refine r_step hk rfl rfl rfl ?_
      refine r_ne (fun hq9 => absurd (show nI (T + 1) - nI (T + 1) / 13 * 13 = 0 by rw [erem, h13]; rfl) hq9) (fun _ => ?_)
      iterate 3 refine r_step hk rfl rfl rfl ?_
      refine r_ia hk (t) rfl rfl hz (by omega) rfl ?_
      iterate 2 refine r_step hk rfl rfl rfl ?_
      refine r_ne (fun h152 => ?_) (fun h152 => ?_)
      · iterate 2 refine r_step hk rfl rfl rfl ?_
        first | exact stay (fun hc => h152 hc.1) | exact stay (fun hc => hc.2.elim h162 h175)
      · iterate 3 refine r_step hk rfl rfl rfl ?_
        refine r_ia hk (t) rfl rfl hz (by omega) rfl ?_
        iterate 2 refine r_step hk rfl rfl rfl ?_
        refine r_eq (fun h162 => ?_) (fun h162 => ?_)
        · first | exact srt h152 (Or.inl h162) | exact srt h152 (Or.inr h175)
        · iterate 3 refine r_step hk rfl rfl rfl ?_
          refine r_ia hk (t) rfl rfl hz (by omega) rfl ?_
          refine r_step hk rfl rfl rfl ?_
          refine r_callV hk [.ref 44] [.int (a1 63 t)] rfl rfl rfl rfl rfl rfl rfl (by omega) (m_seasonNow (w := upd2 w 44 24 (nI (T + 1))) rfl (by omega)) ?_
          rintro _ _ ⟨rfl, rfl⟩
          refine r_step hk rfl rfl rfl ?_
          refine r_ne (fun h175 => ?_) (fun h175 => ?_)
          · iterate 2 refine r_step hk rfl rfl rfl ?_
            first | exact stay (fun hc => h152 hc.1) | exact stay (fun hc => hc.2.elim h162 h175)
          · first | exact srt h152 (Or.inl h162) | exact srt h152 (Or.inr h175)
  -- behind the second loop
  have mid : ∀ (a1 : Nat → Nat → Int32) (z : Int32), gag [64, 70, 73] a a1 → (∀ j, a1 70 j = a 70 j + nI (glc (a 64) (a 65) (a 61) j N)) → a1 73 = gu (a 73) (T / 52) (w 44 39) → gXo a1 = grag N (nI (T + 1)) (gXo a) → gX d 132 125 [some (.ref 44), some (.int z)] [] (n, u, HP (upd2 w 44 24 (nI (T + 1))) a1 b r q y) Q := by
    intro a1 z hag h70 h73 hX
    by_cases h13 : (T + 1) % 13 = 0
    · skip
      iterate 2 refine r_step hk rfl rfl rfl ?_
      exact loop3 0 (Nat.zero_le _) a1 _ (gag_sub hag (by decide)) h70 h73 h13 hX rfl
    · have fin : ∀ L : gL, gX d 132 193 L [] (n, u, HP (upd2 w 44 24 (nI (T + 1))) a1 b r q y) Q := by
        intro L
        refine r_ret hk rfl rfl ?_
        rw [← hQ]
        exact ⟨rfl, a1, gag_sub hag (by decide), h70, h73, by rw [if_neg h13]; exact hX, rfl⟩
      iterate 6 refine r_step hk rfl rfl rfl ?_
      refine r_ge (fun h132 => ?_) (fun h132 => ?_)
      · exact fin _
      · iterate 3 refine r_step hk rfl rfl rfl ?_
        refine r_rem hk rfl (by decide) ?_
        refine r_step hk rfl rfl rfl ?_
        refine r_ne (fun _ => ?_) (fun hq9 => absurd hq9 (show ¬ nI (T + 1) - nI (T + 1) / 13 * 13 = 0 by rw [erem]; exact nI_ne0 (by omega) (by omega)))
        exact fin _
  have loop2 : ∀ (t : Nat), t ≤ N → ∀ (a1 : Nat → Nat → Int32) (z : Int32), gag [64, 70, 73] a a1 → (∀ j, a1 70 j = a 70 j + nI (glc (a 64) (a 65) (a 61) j N)) → a1 73 = gu (a 73) (T / 52) (w 44 39) → a1 64 = (grag t (nI (T + 1)) (gXo a)).1 → z = nI t →
      gX d 132 79 [some (.ref 44), some (.int z)] [] (n, u, HP (upd2 w 44 24 (nI (T + 1))) a1 b r q y) Q := by
    refine g_down ?_ ?_
    · intro a1 z hag h70 h73 h64 hz
      iterate 4 refine r_step hk rfl rfl rfl ?_
      refine r_ge (fun _ => ?_) (fun hq9 => absurd (show w 44 25 ≤ z by rw [hz, hN]; exact nI_le (Nat.le_refl _) (by omega)) hq9)
      exact mid a1 _ hag h70 h73 (by show (a1 64, a1 65, a1 66) = _; rw [h64, hag 65 (by decide), hag 66 (by decide)]; rfl)
    · intro t ht ih a1 z hag h70 h73 h64 hz
      have e66 : a1 66 = a 66 := hag 66 (by decide)
      have e64t : a1 64 t = a 64 t := by rw [h64]; exact grag_t
      iterate 4 refine r_step hk rfl rfl rfl ?_
      refine r_ge (fun hq9 => absurd hq9 (show ¬ w 44 25 ≤ z by rw [hz, hN]; exact nI_ge ht (by omega))) (fun _ => ?_)
      iterate 3 refine r_step hk rfl rfl rfl ?_
      refine r_ia hk (t) rfl rfl hz (by omega) rfl ?_
      iterate 2 refine r_step hk rfl rfl rfl ?_
      refine r_ne (fun h94 => ?_) (fun h94 => ?_)
      · iterate 2 refine r_step hk rfl rfl rfl ?_
        first | exact ih _ _ (gag_up hag (by decide)) (fun j => h70 j) h73 (by rw [gu_row, h64]; exact grag_s (X := gXo a) (N := 0) (e64t.symm.trans h94) (by show ¬ nI (T + 1) - a 66 t < 5; rw [← e66]; exact h109)) (nI_s hz) | exact ih a1 _ hag h70 h73 (by rw [h64]; exact grag_n (X := gXo a) (fun hc => hc.2 (by show nI (T + 1) - a 66 t < 5; rw [← e66]; exact h109))) (nI_s hz) | exact ih a1 _ hag h70 h73 (by rw [h64]; exact grag_n (X := gXo a) (fun hc => h94 (e64t.trans hc.1))) (nI_s hz)
      · iterate 5 refine r_step hk rfl rfl rfl ?_
        refine r_ia hk (t) rfl rfl hz (by omega) rfl ?_
        iterate 3 refine r_step hk rfl rfl rfl ?_
        refine r_lt (fun h109 => ?_) (fun h109 => ?_)
        · iterate 2 refine r_step hk rfl rfl rfl ?_
          first | exact ih _ _ (gag_up hag (by decide)) (fun j => h70 j) h73 (by rw [gu_row, h64]; exact grag_s (X := gXo a) (N := 0) (e64t.symm.trans h94) (by show ¬ nI (T + 1) - a 66 t < 5; rw [← e66]; exact h109)) (nI_s hz) | exact ih a1 _ hag h70 h73 (by rw [h64]; exact grag_n (X := gXo a) (fun hc => hc.2 (by show nI (T + 1) - a 66 t < 5; rw [← e66]; exact h109))) (nI_s hz) | exact ih a1 _ hag h70 h73 (by rw [h64]; exact grag_n (X := gXo a) (fun hc => h94 (e64t.trans hc.1))) (nI_s hz)
        · iterate 4 refine r_step hk rfl rfl rfl ?_
          refine r_is hk (t) rfl rfl rfl hz (by omega) rfl rfl ?_
          iterate 2 refine r_step hk rfl rfl rfl ?_
          first | exact ih _ _ (gag_up hag (by decide)) (fun j => h70 j) h73 (by rw [gu_row, h64]; exact grag_s (X := gXo a) (N := 0) (e64t.symm.trans h94) (by show ¬ nI (T + 1) - a 66 t < 5; rw [← e66]; exact h109)) (nI_s hz) | exact ih a1 _ hag h70 h73 (by rw [h64]; exact grag_n (X := gXo a) (fun hc => hc.2 (by show nI (T + 1) - a 66 t < 5; rw [← e66]; exact h109))) (nI_s hz) | exact ih a1 _ hag h70 h73 (by rw [h64]; exact grag_n (X := gXo a) (fun hc => h94 (e64t.trans hc.1))) (nI_s hz)
  have edv : w 44 24 / 52 = nI (T / 52) := by rw [hT]; exact pk_div (d := 52) (by omega) (by decide) (by decide)
  have loop1 : ∀ (t : Nat), t ≤ N → ∀ (a1 : Nat → Nat → Int32) (z : Int32), gag [70] a a1 → (∀ j, a1 70 j = a 70 j + nI (glc (a 64) (a 65) (a 61) j t)) → z = nI t →
      gX d 132 2 [some (.ref 44), some (.int z)] [] (n, u, HP w a1 b r q y) Q := by
    refine g_down ?_ ?_
    · intro a1 z hag h70 hz
      iterate 4 refine r_step hk rfl rfl rfl ?_
      refine r_ge (fun _ => ?_) (fun hq9 => absurd (show w 44 25 ≤ z by rw [hz, hN]; exact nI_le (Nat.le_refl _) (by omega)) hq9)
      iterate 5 refine r_step hk rfl rfl rfl ?_
      refine r_div hk rfl (by decide) ?_
      iterate 2 refine r_step hk rfl rfl rfl ?_
      refine r_is hk (T / 52) rfl rfl rfl edv (by omega) rfl rfl ?_
      iterate 5 refine r_step hk rfl rfl rfl ?_
      refine r_putI hk rfl rfl rfl rfl ?_
      iterate 2 refine r_step hk rfl rfl rfl ?_
      rw [eT]
      exact loop2 0 (Nat.zero_le _) _ _ (gag_up (gag_sub hag (by decide)) (by decide)) (fun j => h70 j) (by rw [gu_row, hag 73 (by decide)]) (by show a1 64 = _; rw [hag 64 (by decide)]; funext i; simp [grag]) rfl
    · intro t ht ih a1 z hag h70 hz
      have e61 : a1 61 = a 61 := hag 61 (by decide)
      have e64 : a1 64 = a 64 := hag 64 (by decide)
      have e65 : a1 65 = a 65 := hag 65 (by decide)
      obtain ⟨k, hk8, ek⟩ := hkd t ht
      obtain ⟨s, hs5, es⟩ := hsh t ht
      have ekn : (a 61 t).toNatClampNeg = k := by rw [ek]; exact nI_clamp (by omega)
      have esn : (a 65 t).toNatClampNeg = s := by rw [es]; exact nI_clamp (by omega)
      have eix : 8 * a1 65 t + a1 61 t = nI (8 * s + k) := by rw [e65, e61, es, ek]; exact nI_8 s k
      iterate 4 refine r_step hk rfl rfl rfl ?_
      refine r_ge (fun hq9 => absurd hq9 (show ¬ w 44 25 ≤ z by rw [hz, hN]; exact nI_ge ht (by omega))) (fun _ => ?_)
      iterate 3 refine r_step hk rfl rfl rfl ?_
      refine r_ia hk (t) rfl rfl hz (by omega) rfl ?_
      iterate 2 refine r_step hk rfl rfl rfl ?_
      refine r_ne (fun h17 => ?_) (fun h17 => ?_)
      · iterate 2 refine r_step hk rfl rfl rfl ?_
        first | exact ih _ _ (gag_up hag (by decide)) (fun j => glc_s (e64 ▸ h17) (by rw [esn, ekn]) h70 j) (nI_s hz) | exact ih a1 _ hag (fun j => glc_n (e64 ▸ h17) (h70 j)) (nI_s hz)
      · iterate 6 refine r_step hk rfl rfl rfl ?_
        refine r_ia hk (t) rfl rfl hz (by omega) rfl ?_
        iterate 4 refine r_step hk rfl rfl rfl ?_
        refine r_ia hk (t) rfl rfl hz (by omega) rfl ?_
        iterate 2 refine r_step hk rfl rfl rfl ?_
        refine r_ia hk (8 * s + k) rfl rfl eix (by omega) rfl ?_
        iterate 2 refine r_step hk rfl rfl rfl ?_
        refine r_is hk (8 * s + k) rfl rfl rfl eix (by omega) rfl rfl ?_
        iterate 2 refine r_step hk rfl rfl rfl ?_
        first | exact ih _ _ (gag_up hag (by decide)) (fun j => glc_s (e64 ▸ h17) (by rw [esn, ekn]) h70 j) (nI_s hz) | exact ih a1 _ hag (fun j => glc_n (e64 ▸ h17) (h70 j)) (nI_s hz)
  iterate 2 refine r_step hk rfl rfl rfl ?_
  exact loop1 0 (Nat.zero_le _) a _ gag_rf (fun j => (Int32.add_zero _).symm) rfl
end GM7
